/** The edges of reckoning and of the six steps of an hour: each test stands for a sentence of the document. */
public final class HourEdgesTest {
    private static final Check CHECK = new Check("HourEdgesTest");
    private static final String MAX = "(32768*65535+32767)";
    private static final String MIN = "(32768*65536)";
    private static final String PLACE = "garden g sticks 30 grows 5 thick 3;garden h sticks 7 grows 0 thick 1;"
            + "rack r holds 20;rack s holds 9;peeler p of g to r skill 4;peeler q of h to s skill 1;"
            + "boat b holds 40 speed 5;boat c holds 3 speed 1;river 6 current 2;price second 17;";

    public static void main(String[] args) {
        sumsAndDifferencesWrapAround();
        productsWrapAround();
        whatIsTurnedWrapsAround();
        divisionIsCutTowardsNought();
        divisionByNoughtGivesNought();
        theLeastNumberByMinusOne();
        leastAndGreatestOfTwo();
        comparisonsAtTheirEdges();
        loadingByNumbersThatWrapAround();
        aDayHasTwelveHours();
        coinsEdgesAndStoreAtFirst();
        aKnifeIsBluntWithAnEdgeOfNought();
        roomOfARack();
        gradeOfABundle();
        pricesSinkByGlut();
        gluts();
        whettingByOrder();
        whettingAtFewCoins();
        loadingByOrder();
        aBoatThatIsAfloatIsNotLoaded();
        restingCountsEachTime();
        sticksGrowUpTo99();
        sticksGrowInTheFirstHourOfADay();
        peelingByTheEdge();
        peelingByTheSkill();
        noMoreThanTheSticks();
        noMoreThanTheRoom();
        bundlesComeToTheEndOfTheRow();
        peelersByNumbers();
        shadeDriesAndSunDoesNot();
        aNewBundleHasNeitherDriedNorBeenInTheSun();
        eachBundleKeepsItsHoursInTheSun();
        bundlesLeaveWithThreeTimesTheirThickness();
        allThatHaveDriedLeave();
        theGradeAsItIsThen();
        boatsGoUpAndComeBack();
        quillsAreSoldOneByOne();
        boatsByNumbers();
        coinsUpTo99999();
        wordsTellWhatThereIs();
        CHECK.end();
    }

    /** The test holds in the first hour: then a rest is carried out. */
    private static void holds(String test) {
        asked(test, true);
    }

    private static void holdsNot(String test) {
        asked(test, false);
    }

    private static void asked(String test, boolean due) {
        QuillBoats x = Check.told(PLACE + "rest p when " + test + ";rest q when not[" + test + "];");
        x.pass(1);
        CHECK.same("carried out for " + test, x.count(12), 1);
        CHECK.same("p peels none when " + test, x.peeler(0, 4) == 0 ? 1 : 0, due ? 1 : 0);
    }

    /** "sums, differences and products of the language wrap around in 32 bits" */
    private static void sumsAndDifferencesWrapAround() {
        holds(MAX + ">0");
        holds(MIN + "<0");
        holds(MAX + "-1<" + MAX);
        holds(MAX + "-1+1=" + MAX);
        holds(MAX + "+1=" + MIN);
        holds(MAX + "+1<" + MAX);
        holds(MAX + "+0=" + MAX);
        holds(MAX + "+" + MAX + "=-2");
        holds(MIN + "+" + MIN + "=0");
        holds(MIN + "+" + MAX + "=-1");
        holds(MIN + "-1=" + MAX);
        holds(MIN + "-1>0");
        holds(MIN + "+1-1=" + MIN);
        holds(MIN + "-" + MAX + "=1");
        holds(MAX + "-" + MIN + "=-1");
        holds("0-" + MIN + "=" + MIN);
        holds("-1-" + MIN + "=" + MAX);
        holds(MAX + "-(-1)=" + MIN);
        holds(MAX + "+1+" + MIN + "=0");
        holds(MAX + "-1=2147*100*10000+48*10000+3646");
    }

    private static void productsWrapAround() {
        holds("32767*65536>0");
        holds("32768*65536=" + MIN);
        holds("65536*65535=-65536");
        holds("65536*65536=0");
        holds("65536*65537=65536");
        holds("46340*46340=2147*100*10000+39*10000+5600");
        holds("46341*46341<0");
        holds("46341*46341=" + MIN + "+4633");
        holds("999999*999999=-729*1000*1000-379967");
        holds(MAX + "*2=-2");
        holds(MAX + "*" + MAX + "=1");
        holds(MIN + "*" + MIN + "=0");
        holds(MIN + "*" + MAX + "=" + MIN);
        holds(MIN + "*-1=" + MIN);
        holds(MIN + "*2=0");
        holds(MAX + "*-1=" + MIN + "+1");
        holds("-32768*65536=" + MIN);
        holds("-32768*65536-1>0");
        holds("65536*65536*7=0");
        holds("65536*32768/65536=-32768");
    }

    private static void whatIsTurnedWrapsAround() {
        holds("-" + MIN + "=" + MIN);
        holds("--" + MIN + "=" + MIN);
        holds("-" + MAX + "=" + MIN + "+1");
        holds("--" + MAX + "=" + MAX);
        holds("-0=0");
        holds("------1=1");
        holds("-----1=0-1");
        holds("-(" + MAX + "+1)=" + MIN);
    }

    /** "/ is cut towards 0" */
    private static void divisionIsCutTowardsNought() {
        int[] numbers = {0, 1, 2, 3, 5, 6, 7, 8, 99, 100};
        for (int left : numbers) {
            for (int right : new int[] {1, 2, 3, 7, 100}) {
                int cut = left / right;
                holds(left + "/" + right + "=" + cut);
                holds("-" + left + "/" + right + "=-" + cut);
                holds(left + "/-" + right + "=-" + cut);
                holds("-" + left + "/-" + right + "=" + cut);
            }
        }
        holds(MAX + "/2=1073*1000*1000+741823");
        holds(MIN + "/2=-1073*1000*1000-741824");
        holds("(" + MIN + "+1)/2=-1073*1000*1000-741823");
        holds(MIN + "/" + MIN + "=1");
        holds(MIN + "/" + MAX + "=-1");
        holds(MAX + "/" + MIN + "=0");
        holds(MAX + "/" + MAX + "=1");
        holds("(" + MAX + "-1)/" + MAX + "=0");
        holds(MIN + "/1=" + MIN);
        holds("7/2*2=6");
        holds("2*7/2=7");
        holds("2*(7/2)=6");
        holds("1/2+1/2=0");
    }

    /** "gives 0 with 0 on the right side" */
    private static void divisionByNoughtGivesNought() {
        for (String left : new String[] {"0", "1", "-1", "7", "999999", MAX, MIN, "coins", "-" + MAX}) {
            holds(left + "/0=0");
            holds(left + "/(1-1)=0");
            holds(left + "/-0=0");
            holds("5+" + left + "/(hour*3)=5");
            holds(left + "/0/0=0");
            holds(left + "/0*7=0");
            holds(left + "/(0/5)=0");
        }
    }

    /** "and -2147483648 / -1 gives -2147483648" */
    private static void theLeastNumberByMinusOne() {
        holds(MIN + "/-1=" + MIN);
        holds(MIN + "/(0-1)=" + MIN);
        holds(MIN + "/-1/-1=" + MIN);
        holds(MIN + "/-1<0");
        holds("(" + MIN + "+1)/-1=" + MAX);
        holds(MAX + "/-1=" + MIN + "+1");
        holds(MIN + "/-2=1073*1000*1000+741824");
    }

    private static void leastAndGreatestOfTwo() {
        holds("min(" + MIN + "," + MAX + ")=" + MIN);
        holds("max(" + MIN + "," + MAX + ")=" + MAX);
        holds("min(" + MAX + "," + MIN + ")=" + MIN);
        holds("max(" + MAX + "," + MIN + ")=" + MAX);
        holds("min(0,-1)=-1");
        holds("max(-1,0)=0");
        holds("min(3,3)=3");
        holds("max(3,3)=3");
        holds("min(" + MAX + "+1,0)<0");
        holds("max(" + MAX + "+1,0)=0");
    }

    private static void comparisonsAtTheirEdges() {
        String[] rising = {MIN, MIN + "+1", "-1", "0", "1", MAX + "-1", MAX};
        for (int i = 0; i < rising.length; i++) {
            for (int j = 0; j < rising.length; j++) {
                asked(rising[i] + "<" + rising[j], i < j);
                asked(rising[i] + ">" + rising[j], i > j);
                asked(rising[i] + "=" + rising[j], i == j);
                asked(rising[i] + "<=" + rising[j], i <= j);
                asked(rising[i] + ">=" + rising[j], i >= j);
            }
        }
    }

    /** Nine quills a hour of the first grade come into the store. */
    private static final String QUILLS = "garden g sticks 99 grows 0 thick 1;rack r holds 60;peeler p of g to r skill 9;"
            + "shade 0 is 3;shade 1 is 3;shade 2 is 3;shade 3 is 3;shade 4 is 3;shade 5 is 3;";

    private static void loadingByNumbersThatWrapAround() {
        String[] sums = {MAX, MAX + "+1", MIN, MIN + "-1", "-" + MIN, MIN + "/-1", "65536*65536", "65536*65536+2", MAX + "*2"};
        int[] due = {6, 0, 0, 6, 0, 0, 0, 2, 0};
        for (int i = 0; i < sums.length; i++) {
            QuillBoats x = Check.told(QUILLS + "boat b holds 6 speed 1;load b with " + sums[i] + " of first;");
            x.pass(2);
            CHECK.same("loaded with " + sums[i], x.count(9), due[i]);
            CHECK.same("carried out", x.count(12), due[i] > 0 ? 1 : 0);
        }
    }

    /** "a day has 12 hours, and the hour of the day is the remainder by 12" */
    private static void aDayHasTwelveHours() {
        for (int hour = 0; hour <= 13; hour++) {
            QuillBoats x = Check.told(PLACE + "rest p when hour=" + hour + ";shade 0 is 0;shade 11 is 2;");
            for (int gone = 0; gone < 40; gone++) {
                int before = x.count(12);
                CHECK.same("hours go by", x.count(0), gone);
                x.pass(1);
                CHECK.same("hour=" + hour + " behind " + gone, x.count(12) - before, gone % 12 == hour ? 1 : 0);
            }
        }
        QuillBoats y = Check.told("");
        y.pass(120);
        y.pass(119);
        Check.tell(y, PLACE + "rest p when hour=11;rest q when hour=0;");
        y.pass(1);
        CHECK.same("the hour 239 is the last of a day", y.count(12), 1);
        y.pass(1);
        CHECK.same("the hour 240 is the first of a day", y.count(12), 2);
    }

    /** "There are 50 coins, at first." "none at first" "20, at first" */
    private static void coinsEdgesAndStoreAtFirst() {
        holds("coins=50");
        holds("edge p=20 and edge q=20");
        holds("store first=0 and store second=0 and store third=0 and store fourth=0");
        holds("mile b=0 and mile c=0 and not afloat b and not afloat c");
        holds("room r=20 and room s=9");
        holds("price first=8 and price second=17 and price third=3 and price fourth=1");
        holds("not blunt p and not blunt q");
        QuillBoats x = Check.told(PLACE);
        CHECK.same("bundles at first", x.rack(0, 2) + x.rack(1, 2), 0);
        CHECK.row("boat 0", what -> x.boat(0, what), 40, 5, 0, 0, 0, -1, 0);
        CHECK.row("grade 1", what -> x.grade(1, what), 0, 17, 0, 17, 0);
    }

    /** "a knife is blunt with an edge of 0": not with 1. */
    private static void aKnifeIsBluntWithAnEdgeOfNought() {
        QuillBoats x = Check.told("garden g sticks 99 grows 20 thick 1;rack r holds 60;peeler p of g to r skill 2;"
                + "peeler q of g to r skill 1;rest q when blunt p;");
        for (int hour = 0; hour < 25; hour++) {
            int edge = Math.max(0, 20 - hour);
            CHECK.same("edge", x.peeler(0, 3), edge);
            int before = x.count(12);
            x.pass(1);
            CHECK.same("blunt with an edge of " + edge, x.count(12) - before, edge == 0 ? 1 : 0);
        }
        x.whet(0);
        int before = x.count(12);
        x.pass(1);
        CHECK.same("not blunt when it is whetted", x.count(12), before);
    }

    /** "The room of a rack: what it holds, less the quills of all bundles on it." */
    private static void roomOfARack() {
        QuillBoats x = Check.told("garden g sticks 30 grows 0 thick 2;rack r holds 20;peeler p of g to r skill 4;"
                + "rest p when room r<=4;");
        int[] rooms = {20, 16, 12, 8, 4, 4, 8, 8, 8, 8, 4};
        for (int hour = 0; hour < rooms.length; hour++) {
            int quills = 0;
            for (int i = 0; i < x.rack(0, 2); i++) {
                quills += x.bundle(0, i, 0);
            }
            CHECK.same("room of hour " + hour, x.rack(0, 1), 20 - quills);
            CHECK.same("quills on racks", x.count(8), quills);
            x.pass(1);
        }
        QuillBoats y = Check.told("garden g sticks 30 grows 0 thick 9;rack r holds 4;peeler p of g to r skill 4;"
                + "rest p when room r=0;");
        y.pass(1);
        CHECK.same("a full rack has no room", y.rack(0, 1), 0);
        y.pass(1);
        CHECK.same("room is 0 in a test too", y.count(12), 1);
    }

    /** "(thick - 1) / 3 and its hours in the sun / 3, both cut, added, but at most 3." */
    private static void gradeOfABundle() {
        for (int thick = 1; thick <= 9; thick++) {
            StringBuilder sun = new StringBuilder();
            for (int hour = 0; hour < 12; hour++) {
                sun.append("shade ").append(hour).append(" is 0;");
            }
            QuillBoats x = Check.told("garden g sticks 1 grows 0 thick " + thick + ";rack r holds 60;"
                    + "peeler p of g to r skill 1;" + sun);
            for (int hours = 1; hours <= 15; hours++) {
                x.pass(1);
                CHECK.same("hours in the sun", x.bundle(0, 0, 3), hours);
                CHECK.same("it does not dry", x.bundle(0, 0, 2), 0);
                CHECK.same("grade of thick " + thick + " behind " + hours, x.bundle(0, 0, 4),
                        Math.min(3, (thick - 1) / 3 + hours / 3));
            }
        }
    }

    private static final int[] SOLD = {1, 2, 3, 4, 5, 7, 8, 9, 12, 13, 39, 40};

    /** "its price is that which was told less glut / 4 (cut), at least 0" */
    private static void pricesSinkByGlut() {
        for (int told : new int[] {0, 1, 2, 9, 10, 50}) {
            for (int many : SOLD) {
                QuillBoats x = Check.told(QUILLS + "boat b holds 40 speed 9;river 1 current 0;price first " + told + ";");
                x.pass(5);
                int coins = 0;
                for (int i = 0; i < many; i++) {
                    coins += Math.max(0, told - i / 4);
                }
                CHECK.same("worth of " + many, x.worth(0, many), coins);
                CHECK.same("loaded", x.load(0, 0, many), many);
                x.pass(1);
                CHECK.same("brought by " + many + " at " + told, x.boat(0, 6), coins);
                CHECK.same("coins", x.count(1), 50 + coins);
                for (int glut = many - 1; glut >= 0; glut--) {
                    CHECK.row("grade 0 with a glut of " + glut, what -> x.grade(0, what + 1), told, glut,
                            Math.max(0, told - glut / 4), many);
                    CHECK.same("worth of one", x.worth(0, 1), Math.max(0, told - glut / 4));
                    x.pass(1);
                }
            }
        }
    }

    /** "Each grade has a glut, 0 at first"; "Gluts that are greater than 0 are 1 less." */
    private static void gluts() {
        QuillBoats x = Check.told(QUILLS + "garden h sticks 9 grows 0 thick 4;peeler q of h to r skill 9;"
                + "boat b holds 2 speed 9;boat c holds 1 speed 9;river 1 current 0;");
        x.pass(4);
        x.load(0, 0, 2);
        x.load(1, 1, 1);
        CHECK.row("glut of", grade -> x.grade(grade, 2), 0, 0, 0, 0);
        x.pass(1);
        CHECK.row("glut of", grade -> x.grade(grade, 2), 1, 0, 0, 0);
        CHECK.row("sold of", grade -> x.grade(grade, 4), 2, 1, 0, 0);
        x.pass(1);
        CHECK.row("glut of", grade -> x.grade(grade, 2), 0, 0, 0, 0);
        x.pass(1);
        CHECK.row("glut of", grade -> x.grade(grade, 2), 0, 0, 0, 0);
    }

    private static final String ONE = "garden g sticks 99 grows 20 thick 1;rack r holds 60;peeler p of g to r skill 1;";

    /** "whet: if the edge of the knife is less than 20, and there are 2 coins or more, these are paid" */
    private static void whettingByOrder() {
        QuillBoats x = Check.told(ONE + "whet p when 1=1;");
        x.pass(1);
        CHECK.same("an edge of 20 is not less than 20", x.count(12) * 100 + x.count(1), 50);
        CHECK.same("never whetted", x.peeler(0, 5), 0);
        for (int times = 1; times <= 25; times++) {
            CHECK.same("an edge of 19 is", x.peeler(0, 3), 19);
            x.pass(1);
            CHECK.same("coins that are left", x.count(1), 50 - 2 * times);
            CHECK.same("carried out", x.count(12), times);
            CHECK.same("whetted", x.peeler(0, 5), times);
        }
        x.pass(1);
        CHECK.same("no coins", x.count(1) * 1000 + x.count(12) * 10 + x.peeler(0, 5), 275);
        CHECK.same("so the edge goes on", x.peeler(0, 3), 18);
    }

    private static void whettingAtFewCoins() {
        for (int coins = 0; coins <= 5; coins++) {
            QuillBoats x = Check.told(ONE + "peeler q of g to r skill 1;peeler u of g to r skill 1;whet p when coins<="
                    + coins + ";whet q when coins<=" + coins + ";");
            if (coins % 2 == 1) {
                x.grant(1);
            }
            for (int i = 0; i < 25 - coins / 2; i++) {
                x.pass(1);
                x.whet(2);
            }
            CHECK.same("coins ahead", x.count(1), coins);
            x.pass(1);
            int whetted = Math.min(2, coins / 2);
            CHECK.same("carried out with " + coins + " coins", x.count(12), whetted);
            CHECK.same("coins that are left", x.count(1), coins - 2 * whetted);
            CHECK.same("the first knife", x.peeler(0, 5) * 100 + x.peeler(0, 3), whetted > 0 ? 119 : 9);
            CHECK.same("the other knife", x.peeler(1, 5) * 100 + x.peeler(1, 3), whetted > 1 ? 119 : 9);
        }
    }

    /** "as many quills ... as the sum tells, held at 0 and at what it holds, but no more than the store has" */
    private static void loadingByOrder() {
        for (int sum : new int[] {-999999, -1, 0, 1, 2, 5, 6, 7, 8, 9, 10, 40, 999999}) {
            for (int holds : new int[] {1, 6, 9, 10, 40}) {
                for (int hours = 0; hours <= 2; hours++) {
                    QuillBoats x = Check.told(QUILLS + "boat b holds " + holds + " speed 1;load b with " + sum
                            + " of first when hour=" + hours + ";");
                    x.pass(hours + 1);
                    int many = Math.min(Math.max(0, Math.min(sum, holds)), 9 * hours);
                    CHECK.same("loaded with " + sum + " in hour " + hours, x.boat(0, 4), many);
                    CHECK.same("carried out (loading none is not)", x.count(12), many > 0 ? 1 : 0);
                    CHECK.same("afloat if these are some", x.boat(0, 3), many > 0 ? 1 : 0);
                    CHECK.same("its grade", x.boat(0, 5), many > 0 ? 0 : -1);
                    CHECK.same("the store", x.grade(0, 0), 9 * hours + 9 - many);
                }
            }
        }
    }

    /** "if the boat lies at the landing": not on its way up, nor on its way back. */
    private static void aBoatThatIsAfloatIsNotLoaded() {
        QuillBoats x = Check.told(QUILLS + "boat b holds 1 speed 3;river 6 current 1;load b with 1 of first;"
                + "rest p when afloat b;");
        int[] ways = {0, 1, 1, 2, 2, 0, 1, 1, 2, 2, 0};
        int[] carried = {0, 2, 3, 4, 5, 6, 8, 9, 10, 11, 12};
        for (int hour = 0; hour < ways.length; hour++) {
            x.pass(1);
            CHECK.same("way behind hour " + hour, x.boat(0, 3), ways[hour]);
            CHECK.same("carried out behind hour " + hour, x.count(12), carried[hour]);
        }
    }

    /** "a rest is each time, also of one who could not peel"; "the peeler rests in this hour" */
    private static void restingCountsEachTime() {
        String[] places = {"garden g sticks 0 grows 0 thick 1;rack r holds 9;", "garden g sticks 9 grows 0 thick 9;rack r holds 1;",
            "garden g sticks 9 grows 0 thick 9;rack r holds 9;"};
        for (String place : places) {
            QuillBoats x = Check.told(place + "peeler p of g to r skill 1;rest p when hour=3;rest p when hour>2;"
                    + "rest p when hour<3 and hour>3;");
            x.pass(3);
            CHECK.same("no rest", x.count(12), 0);
            int peeled = x.peeler(0, 4);
            x.pass(1);
            CHECK.same("two rests in an hour", x.count(12), 2);
            CHECK.same("none is peeled", x.peeler(0, 4), peeled);
            x.pass(8);
            CHECK.same("one rest an hour", x.count(12), 10);
            CHECK.same("none is peeled", x.peeler(0, 4), peeled);
            int before = x.peeler(0, 3);
            boolean can = x.garden(0, 0) > 0 && x.rack(0, 1) > 0;
            x.pass(1);
            CHECK.same("the rest is over", x.peeler(0, 3), can ? before - 1 : before);
        }
    }

    /** "each garden has as many more sticks as it grows, at most 99" */
    private static void sticksGrowUpTo99() {
        int[][] pairs = {{0, 0}, {0, 1}, {0, 20}, {78, 20}, {79, 20}, {80, 20}, {97, 1}, {98, 1}, {98, 2}, {99, 0},
            {99, 1}, {99, 20}};
        for (int[] pair : pairs) {
            QuillBoats x = Check.told("garden g sticks " + pair[0] + " grows " + pair[1] + " thick 1;");
            int sticks = pair[0];
            for (int day = 0; day < 4; day++) {
                sticks = Math.min(99, sticks + pair[1]);
                x.pass(12);
                CHECK.same("sticks of " + pair[0] + " that grow " + pair[1], x.garden(0, 0), sticks);
            }
        }
    }

    /** "In the first hour of a day": behind the orders, ahead of peeling. */
    private static void sticksGrowInTheFirstHourOfADay() {
        QuillBoats x = Check.told("garden g sticks 1 grows 3 thick 1;garden h sticks 0 grows 1 thick 1;rack r holds 60;"
                + "peeler p of h to r skill 1;rest p when sticks g=1 or sticks g=4;");
        for (int hour = 0; hour < 30; hour++) {
            x.pass(1);
            CHECK.same("sticks behind hour " + hour, x.garden(0, 0), 4 + hour / 12 * 3);
        }
        CHECK.same("orders come ahead of growing", x.count(12), 13);
    }

    /** "as many quills as the skill, if the edge is 10 or more; half (cut) of it, if it is 1 to 9; none, if it is 0" */
    private static void peelingByTheEdge() {
        for (int skill = 1; skill <= 9; skill++) {
            StringBuilder sun = new StringBuilder();
            for (int hour = 0; hour < 12; hour++) {
                sun.append("shade ").append(hour).append(" is 3;");
            }
            QuillBoats x = Check.told("garden g sticks 99 grows 20 thick 1;garden h sticks 99 grows 20 thick 1;"
                    + "rack r holds 60;peeler p of g to r skill " + skill + ";" + sun);
            int edge = 20;
            for (int hour = 0; hour < 24 && x.garden(0, 0) >= 9; hour++) {
                int many = edge >= 10 ? skill : edge >= 1 ? skill / 2 : 0;
                CHECK.same("skill " + skill + " with an edge of " + edge, x.pass(1), many);
                edge -= many > 0 ? 1 : 0;
                CHECK.same("the edge behind it", x.peeler(0, 3), edge);
            }
        }
    }

    /** All edges from 20 to 0, with sticks enough for a skill of 6: 10 * 6 are cut, then 9 * 3. */
    private static void peelingByTheSkill() {
        QuillBoats x = Check.told("garden g sticks 99 grows 20 thick 1;rack r holds 60;peeler p of g to r skill 6;");
        int[] peeled = new int[25];
        for (int hour = 0; hour < peeled.length; hour++) {
            peeled[hour] = x.pass(1);
            int edge = 20 - hour;
            CHECK.same("with an edge of " + edge, peeled[hour], edge >= 10 ? 6 : edge >= 1 ? 3 : 0);
        }
        CHECK.same("in all", x.peeler(0, 4), 11 * 6 + 9 * 3);
        CHECK.same("in all", x.count(10), 11 * 6 + 9 * 3);
        QuillBoats y = Check.told(ONE);
        y.pass(11);
        CHECK.same("half of 1 is none", y.pass(1), 0);
        CHECK.same("so the edge stays", y.peeler(0, 3), 9);
    }

    /** "but no more than the garden has sticks" */
    private static void noMoreThanTheSticks() {
        for (int sticks = 0; sticks <= 9; sticks++) {
            for (int skill = 1; skill <= 9; skill++) {
                QuillBoats x = Check.told("garden g sticks " + sticks + " grows 0 thick 9;rack r holds 60;"
                        + "peeler p of g to r skill " + skill + ";");
                int many = Math.min(sticks, skill);
                CHECK.same("skill " + skill + " with " + sticks + " sticks", x.pass(1), many);
                CHECK.same("sticks that are left", x.garden(0, 0), sticks - many);
                CHECK.same("edge", x.peeler(0, 3), many > 0 ? 19 : 20);
                CHECK.same("bundles", x.rack(0, 2), many > 0 ? 1 : 0);
            }
        }
    }

    /** "and the rack has room" */
    private static void noMoreThanTheRoom() {
        for (int room = 1; room <= 10; room++) {
            for (int skill = 1; skill <= 9; skill++) {
                QuillBoats x = Check.told("garden g sticks 99 grows 0 thick 9;rack r holds " + room + ";"
                        + "peeler p of g to r skill " + skill + ";");
                int lying = 0;
                for (int hour = 0; hour < 4; hour++) {
                    int many = Math.min(room - lying, skill);
                    CHECK.same("skill " + skill + " with room for " + (room - lying), x.pass(1), many);
                    lying += many;
                    CHECK.same("room that is left", x.rack(0, 1), room - lying);
                    CHECK.same("sticks that are left", x.garden(0, 0), 99 - lying);
                    CHECK.same("bundles", x.rack(0, 2), (lying + skill - 1) / skill);
                }
            }
        }
    }

    /** "they come as a bundle, as thick as the garden is, to the end of the row of the rack" */
    private static void bundlesComeToTheEndOfTheRow() {
        QuillBoats x = Check.told("garden g sticks 9 grows 0 thick 9;garden h sticks 9 grows 0 thick 8;rack r holds 60;"
                + "rack s holds 60;peeler p of g to r skill 1;peeler q of h to r skill 2;peeler u of g to s skill 3;");
        x.pass(2);
        int[][] due = {{1, 9, 2, 0, 2}, {2, 8, 2, 0, 2}, {1, 9, 1, 0, 2}, {2, 8, 1, 0, 2}};
        for (int place = 0; place < due.length; place++) {
            int p = place;
            CHECK.row("bundle at " + p, what -> x.bundle(0, p, what), due[p]);
        }
        CHECK.row("the other rack", what -> x.bundle(1, 1, what), 3, 9, 1, 0, 2);
        CHECK.outOfBounds("no more bundles", () -> x.bundle(0, 4, 0));
    }

    /** "Peelers who do not rest, by numbers": the first take the sticks and the room. */
    private static void peelersByNumbers() {
        QuillBoats x = Check.told("garden g sticks 10 grows 0 thick 9;rack r holds 60;peeler a of g to r skill 4;"
                + "peeler b of g to r skill 5;peeler c of g to r skill 6;peeler d of g to r skill 7;");
        CHECK.same("all sticks", x.pass(1), 10);
        CHECK.row("peeled by", peeler -> x.peeler(peeler, 4), 4, 5, 1, 0);
        CHECK.row("edge of", peeler -> x.peeler(peeler, 3), 19, 19, 19, 20);
        QuillBoats y = Check.told("garden g sticks 99 grows 0 thick 9;rack r holds 8;peeler a of g to r skill 4;"
                + "peeler b of g to r skill 5;peeler c of g to r skill 6;rest a when hour=0;");
        CHECK.same("all room", y.pass(1), 8);
        CHECK.row("peeled by", peeler -> y.peeler(peeler, 4), 0, 5, 3);
    }

    /** "has dried more by the shade of this hour of the day, if that is 1 to 3; if it is 0, it was in the sun" */
    private static void shadeDriesAndSunDoesNot() {
        for (int shade = 0; shade <= 3; shade++) {
            QuillBoats x = Check.told("garden g sticks 1 grows 0 thick 9;rack r holds 60;peeler p of g to r skill 1;"
                    + "shade 0 is " + shade + ";shade 1 is " + (3 - shade) + ";");
            x.pass(1);
            CHECK.row("behind an hour with shade " + shade, what -> x.bundle(0, 0, what + 2), shade, shade == 0 ? 1 : 0);
            x.pass(1);
            CHECK.row("behind another", what -> x.bundle(0, 0, what + 2), 3, shade == 0 || shade == 3 ? 1 : 0);
        }
        QuillBoats y = Check.told("garden g sticks 1 grows 0 thick 9;rack r holds 60;peeler p of g to r skill 1;"
                + "shade 11 is 3;shade 0 is 2;");
        y.pass(11);
        CHECK.same("eleven hours", y.bundle(0, 0, 2), 12);
        y.pass(1);
        CHECK.same("the shade of hour 11", y.bundle(0, 0, 2), 15);
        y.pass(1);
        CHECK.same("the shade of hour 0 of the next day", y.bundle(0, 0, 2), 17);
    }

    /** "(both 0, at first)", also where a bundle lay that was in the sun. */
    private static void aNewBundleHasNeitherDriedNorBeenInTheSun() {
        QuillBoats x = Check.told("garden g sticks 99 grows 0 thick 1;rack r holds 60;peeler p of g to r skill 1;"
                + "shade 0 is 0;shade 1 is 0;shade 2 is 3;shade 3 is 1;shade 4 is 0;");
        x.pass(2);
        CHECK.row("sun at", place -> x.bundle(0, place, 3), 2, 1);
        CHECK.row("dried at", place -> x.bundle(0, place, 2), 0, 0);
        x.pass(1);
        CHECK.same("all have left", x.rack(0, 2), 0);
        x.pass(1);
        CHECK.row("a new bundle", what -> x.bundle(0, 0, what), 1, 1, 1, 0, 0);
        x.pass(1);
        CHECK.row("sun at", place -> x.bundle(0, place, 3), 1, 1);
        CHECK.row("dried at", place -> x.bundle(0, place, 2), 1, 0);
    }

    /** What is left of the row keeps all of its own. */
    private static void eachBundleKeepsItsHoursInTheSun() {
        QuillBoats x = Check.told("garden g sticks 1 grows 0 thick 1;garden h sticks 9 grows 0 thick 9;rack r holds 60;"
                + "peeler p of g to r skill 1;peeler q of h to r skill 2;rest q when hour=0;shade 0 is 0;shade 1 is 2;");
        x.pass(2);
        CHECK.row("sun at", place -> x.bundle(0, place, 3), 1, 0);
        CHECK.row("dried at", place -> x.bundle(0, place, 2), 2, 2);
        x.pass(1);
        CHECK.row("the second is the first", what -> x.bundle(0, 0, what), 2, 9, 3, 0, 2);
        CHECK.row("the third is the second", what -> x.bundle(0, 1, what), 2, 9, 1, 0, 2);
        CHECK.same("two are left", x.rack(0, 2), 2);
    }

    /** "bundles that have dried 3 * thick or more leave the rack": not with one less, and with more at once. */
    private static void bundlesLeaveWithThreeTimesTheirThickness() {
        for (int thick = 1; thick <= 9; thick++) {
            for (int shade = 1; shade <= 3; shade++) {
                StringBuilder shades = new StringBuilder();
                for (int hour = 0; hour < 12; hour++) {
                    shades.append("shade ").append(hour).append(" is ").append(shade).append(";");
                }
                QuillBoats x = Check.told("garden g sticks 4 grows 0 thick " + thick + ";rack r holds 60;"
                        + "peeler p of g to r skill 4;" + shades);
                int hours = (3 * thick + shade - 1) / shade;
                for (int hour = 1; hour < hours; hour++) {
                    x.pass(1);
                    CHECK.same("thick " + thick + " in shade " + shade, x.bundle(0, 0, 2), hour * shade);
                    CHECK.same("hours until it leaves", x.dry(0, 0, 0), hours - hour);
                }
                x.pass(1);
                CHECK.same("it has left", x.rack(0, 2) * 100 + x.rack(0, 1), 60);
                CHECK.same("its quills are in the store", x.grade((thick - 1) / 3, 0), 4);
            }
        }
    }

    /** Also one behind a bundle that stays: what is left keeps its order. */
    private static void allThatHaveDriedLeave() {
        QuillBoats x = Check.told("garden g sticks 4 grows 0 thick 9;garden h sticks 2 grows 0 thick 1;"
                + "garden i sticks 6 grows 0 thick 2;rack r holds 60;peeler p of g to r skill 4;peeler q of h to r skill 1;"
                + "peeler u of i to r skill 3;");
        x.pass(2);
        CHECK.row("thick at", place -> x.bundle(0, place, 1), 9, 1, 2, 1, 2);
        x.pass(1);
        CHECK.row("thick at", place -> x.bundle(0, place, 1), 9, 2, 1, 2);
        CHECK.row("dried at", place -> x.bundle(0, place, 2), 3, 3, 2, 2);
        x.pass(1);
        CHECK.row("thick at", place -> x.bundle(0, place, 1), 9, 2, 2);
        x.pass(2);
        CHECK.row("thick at", place -> x.bundle(0, place, 1), 9, 2);
        x.pass(1);
        CHECK.row("thick at", place -> x.bundle(0, place, 1), 9);
        CHECK.same("quills at it", x.bundle(0, 0, 0), 4);
        CHECK.same("the store", x.grade(0, 0), 8);
    }

    /** "their quills come into the store, by the grade as it is then" */
    private static void theGradeAsItIsThen() {
        for (int sun = 0; sun <= 10; sun++) {
            StringBuilder shades = new StringBuilder();
            for (int hour = 0; hour < 12; hour++) {
                shades.append("shade ").append(hour).append(" is ").append(hour < sun ? 0 : 3).append(";");
            }
            QuillBoats x = Check.told("garden g sticks 4 grows 0 thick 1;rack r holds 60;peeler p of g to r skill 4;"
                    + shades);
            if (sun > 0) {
                x.pass(sun);
                CHECK.same("the store is empty still", x.count(7), 0);
                CHECK.same("the grade that it has then", x.dry(0, 0, 1), Math.min(3, sun / 3));
            }
            x.pass(1);
            CHECK.same("behind " + sun + " hours in the sun", x.grade(Math.min(3, sun / 3), 0), 4);
            CHECK.same("all of it", x.count(7), 4);
        }
    }

    /** "by its speed less the current, at least by 1 mile, at most to the market"; "by its speed and the current" */
    private static void boatsGoUpAndComeBack() {
        for (int speed = 1; speed <= 9; speed++) {
            for (int current = 0; current <= 5; current++) {
                for (int miles : new int[] {1, 2, 7, 60}) {
                    QuillBoats x = Check.told(QUILLS + "boat b holds 1 speed " + speed + ";river " + miles + " current "
                            + current + ";");
                    x.pass(1);
                    x.load(0, 0, 1);
                    goesUp(x, Math.max(1, speed - current), miles);
                    comesBack(x, speed + current, miles);
                }
            }
        }
    }

    private static void goesUp(QuillBoats x, int byHour, int miles) {
        for (int mile = 0; mile < miles;) {
            CHECK.row("on its way up", what -> x.boat(0, what + 3), 1, 1, 0, 0);
            mile = Math.min(miles, mile + byHour);
            x.pass(1);
            CHECK.same("mile", x.boat(0, 2), mile);
        }
        CHECK.row("at the market", what -> x.boat(0, what + 3), 2, 0, -1, 8);
    }

    private static void comesBack(QuillBoats x, int byHour, int miles) {
        int hours = (miles + byHour - 1) / byHour;
        for (int mile = miles; mile > 0; hours--) {
            CHECK.same("until", x.until(0), hours);
            CHECK.same("on its way back", x.boat(0, 3), 2);
            mile = Math.max(0, mile - byHour);
            x.pass(1);
            CHECK.same("mile", x.boat(0, 2), mile);
        }
        CHECK.row("at the landing", what -> x.boat(0, what + 2), 0, 0, 0, -1, 8);
        CHECK.same("until", x.until(0), 0);
        x.pass(1);
        CHECK.same("it lies there", x.boat(0, 2), 0);
    }

    /** "A quill is sold for the price as it is then; the glut of its grade is 1 greater behind it." */
    private static void quillsAreSoldOneByOne() {
        QuillBoats x = Check.told(QUILLS + "boat b holds 5 speed 9;river 1 current 0;price first 2;");
        x.pass(3);
        x.load(0, 0, 5);
        x.pass(1);
        CHECK.same("2 + 2 + 2 + 2 + 1", x.boat(0, 6), 9);
        CHECK.same("glut", x.grade(0, 2), 4);
        x.pass(1);
        CHECK.same("a glut of 3 does not tell", x.grade(0, 2) * 10 + x.grade(0, 3), 32);
        x.load(0, 0, 5);
        x.pass(1);
        CHECK.same("2 + 1 + 1 + 1 + 1 more", x.boat(0, 6), 15);
        CHECK.same("sold in all", x.count(11), 10);
        CHECK.same("sold of first", x.grade(0, 4), 10);
    }

    /** "Boats that are afloat, by numbers": whichever is loaded first. */
    private static void boatsByNumbers() {
        QuillBoats x = Check.told(QUILLS + "boat b holds 4 speed 9;boat c holds 4 speed 9;river 1 current 0;price first 1;"
                + "load c with 4 of first when hour=2;load b with 4 of first when hour=2;");
        x.pass(3);
        CHECK.same("the first sells at 1", x.boat(0, 6), 4);
        CHECK.same("the other at 0", x.boat(1, 6), 0);
        CHECK.same("both are counted", x.count(11), 8);
        CHECK.same("coins", x.count(1), 54);
    }

    /** "There are at most 99999 coins; what is more is lost" */
    private static void coinsUpTo99999() {
        for (int coins : new int[] {99998, 99997, 99991, 99990, 99949, 99950}) {
            QuillBoats x = Check.told(QUILLS + "boat b holds 1 speed 9;boat c holds 1 speed 9;river 1 current 0;"
                    + "price first 5;");
            x.pass(1);
            while (x.count(1) < coins) {
                x.grant(Math.min(9999, coins - x.count(1)));
            }
            x.load(0, 0, 1);
            x.load(1, 0, 1);
            CHECK.same("coins ahead", x.count(1), coins);
            CHECK.same("foreseen", x.foresee(1, 1), Math.min(99999, coins + 10));
            x.pass(1);
            CHECK.same("coins behind " + coins, x.count(1), Math.min(99999, coins + 10));
            CHECK.same("brought", x.boat(0, 6) * 10 + x.boat(1, 6), 55);
        }
    }

    private static final String[] WORDS = {"hour", "coins", "sticks g", "sticks h", "edge p", "edge q", "room r", "room s",
        "mile b", "mile c", "store first", "store second", "store third", "store fourth", "price first", "price second",
        "price third", "price fourth"};
    private static final String BUSY = "garden g sticks 50 grows 5 thick 1;garden h sticks 60 grows 0 thick 4;"
            + "garden i sticks 0 grows 0 thick 1;rack r holds 30;rack s holds 40;peeler p of g to r skill 7;"
            + "peeler q of h to s skill 3;peeler u of i to s skill 1;boat b holds 9 speed 4;boat c holds 2 speed 3;"
            + "river 5 current 1;shade 1 is 3;shade 2 is 3;shade 3 is 0;shade 4 is 3;price first 9;price second 7;"
            + "load b with 9 of first;load c with 2 of second when hour>3;whet p when edge p<14;";

    /** "In tests and sums hour is the hour of the day, coins what there is, ...": in each hour of two days. */
    private static void wordsTellWhatThereIs() {
        QuillBoats twin = Check.told(BUSY);
        for (int hour = 0; hour < 24; hour++) {
            StringBuilder orders = new StringBuilder();
            int[] numbers = {hour % 12, twin.count(1), twin.garden(0, 0), twin.garden(1, 0), twin.peeler(0, 3),
                twin.peeler(1, 3), twin.rack(0, 1), twin.rack(1, 1), twin.boat(0, 2), twin.boat(1, 2), twin.grade(0, 0),
                twin.grade(1, 0), twin.grade(2, 0), twin.grade(3, 0), twin.grade(0, 3), twin.grade(1, 3),
                twin.grade(2, 3), twin.grade(3, 3)};
            for (int i = 0; i < WORDS.length; i++) {
                orders.append(i == 0 ? "" : " and ").append(WORDS[i]).append("=").append(numbers[i]);
            }
            for (int i = 0; i < 2; i++) {
                orders.append(" and ").append(twin.boat(i, 3) == 0 ? "not " : "").append("afloat ").append("bc".charAt(i));
                orders.append(" and ").append(twin.peeler(i, 3) == 0 ? "" : "not ").append("blunt ").append("pq".charAt(i));
            }
            wordsHold(hour, orders.toString(), twin);
            twin.pass(1);
        }
        CHECK.isTrue("much has been sold", twin.count(11) > 20);
    }

    /** The test stands first, so that it tells of what there is ahead of the hour. */
    private static void wordsHold(int hour, String test, QuillBoats twin) {
        int line = BUSY.indexOf("load b");
        QuillBoats x = Check.told(BUSY.substring(0, line) + "rest u when " + test + ";" + BUSY.substring(line));
        if (hour > 0) {
            x.pass(hour);
        }
        int before = x.count(12);
        int due = twin.foresee(1, 12) - twin.count(12) + 1;
        x.pass(1);
        CHECK.same("in hour " + hour + " " + test, x.count(12) - before, due);
    }
}

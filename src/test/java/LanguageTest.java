/** Promises 1 to 5: a new object, the tape, and the errors of a list with their places. */
public final class LanguageTest {
    private static final Check CHECK = new Check("LanguageTest");
    private static final String GARDEN = "garden g sticks 1 grows 1 thick 1;";
    private static final String RACK = "rack r holds 5;";
    private static final String PEELER = "peeler p of g to r skill 1;";
    private static final String BOAT = "boat b holds 1 speed 1;";
    private static final String ALL = GARDEN + RACK + PEELER + BOAT;

    public static void main(String[] args) {
        newObject();
        feeding();
        trimming();
        teaching();
        tokens();
        syntax();
        depths();
        depthsOfLoading();
        endsOfTheTape();
        manyTokens();
        longestSum();
        names();
        counts();
        ranges();
        orderOfErrors();
        CHECK.end();
    }

    private static void newObject() {
        QuillBoats x = new QuillBoats();
        int[] due = {0, 50, 0, 0, 0, 0, 0, 0, 0, 0, 0, 0, 0, 20, 1, 0};
        for (int what = 0; what < due.length; what++) {
            CHECK.same("new: count(" + what + ")", x.count(what), due[what]);
        }
        int[] prices = {8, 5, 3, 1};
        for (int grade = 0; grade < 4; grade++) {
            CHECK.same("new: store of " + grade, x.grade(grade, 0), 0);
            CHECK.same("new: price of " + grade, x.grade(grade, 1), prices[grade]);
            CHECK.same("new: glut of " + grade, x.grade(grade, 2), 0);
        }
        for (int hour = 0; hour < 12; hour++) {
            CHECK.same("new: shade(" + hour + ")", x.shade(hour), 1);
        }
        CHECK.same("new: errorAt()", x.errorAt(), -1);
        CHECK.outOfBounds("new: garden", () -> x.garden(0, 0));
        CHECK.outOfBounds("new: rack", () -> x.rack(0, 0));
        CHECK.outOfBounds("new: bundle", () -> x.bundle(0, 0, 0));
        CHECK.outOfBounds("new: peeler", () -> x.peeler(0, 0));
        CHECK.outOfBounds("new: boat", () -> x.boat(0, 0));
        CHECK.same("new: pass(1)", x.pass(1), 0);
        CHECK.same("new: hour behind it", x.count(0), 1);
    }

    private static void feeding() {
        QuillBoats x = new QuillBoats();
        CHECK.same("feed", x.feed(0x72697665, 0x72203920, 0x63757272, 0x656e7420, 0x333b2020), 20);
        CHECK.same("bytes of the tape", x.count(15), 20);
        CHECK.same("river 9 current 3;", x.teach(), 0);
        CHECK.same("miles", x.count(13), 9);
        CHECK.same("current", x.count(14), 3);
        CHECK.same("the tape is empty behind teach()", x.count(15), 0);
        for (int i = 1; i <= 100; i++) {
            CHECK.same("feed " + i, x.feed(0x20202020, 0x20202020, 0x20202020, 0x20202020, 0x20202020), i * 20);
        }
        CHECK.illegalState("a full tape", () -> x.feed(0, 0, 0, 0, 0));
        CHECK.same("stays full", x.count(15), 2000);
        x.trim(1981);
        CHECK.illegalState("2001 bytes", () -> x.feed(0, 0, 0, 0, 0));
        x.trim(1980);
        CHECK.same("2000 bytes", x.feed(0x20202020, 0x20202020, 0x20202020, 0x20202020, 0x2020203b), 2000);
        CHECK.same("a ; at the very end", x.teach(), 1);
        CHECK.same("its place", x.errorAt(), 1999);
        x.feed(-1, Integer.MIN_VALUE, 0, 0, 0);
        CHECK.same("bytes that are no signs", x.teach(), 1);
        CHECK.same("the first of them", x.errorAt(), 0);
    }

    private static void trimming() {
        QuillBoats x = new QuillBoats();
        CHECK.same("trim(0) of nothing", x.trim(0), 0);
        CHECK.illegalArgument("trim(1) of nothing", () -> x.trim(1));
        CHECK.illegalArgument("trim(-1)", () -> x.trim(-1));
        Check.write(x, "river 9 current 3;river 8 current 2;");
        CHECK.illegalArgument("trim beyond", () -> x.trim(37));
        CHECK.illegalArgument("trim far beyond", () -> x.trim(Integer.MAX_VALUE));
        CHECK.same("refused trims keep it", x.count(15), 36);
        CHECK.same("trim to all", x.trim(36), 36);
        CHECK.same("trim to the first line", x.trim(18), 18);
        CHECK.same("bytes", x.count(15), 18);
        CHECK.same("teach", x.teach(), 0);
        CHECK.same("the first line counts", x.count(13), 9);
        Check.write(x, "river 7 curr");
        x.trim(8);
        x.feed(0x63757272, 0x656e7420, 0x343b2020, 0x20202020, 0x20202020);
        CHECK.same("a tape behind a trim goes on at its end", x.teach(), 0);
        CHECK.same("its miles", x.count(13), 7);
        CHECK.same("its current", x.count(14), 4);
    }

    /** A list takes the place of all that was told before, but the hour stays; a wrong one changes nothing. */
    private static void teaching() {
        QuillBoats x = Check.told("garden g sticks 30 grows 2 thick 1;rack r holds 20;peeler p of g to r skill 4;"
                + "boat b holds 9 speed 5;river 5 current 0;shade 3 is 2;price first 20;"
                + "load b with 9 of first when hour=4;");
        x.pass(20);
        x.setCurrent(4);
        x.setShade(0, 3);
        CHECK.isTrue("all has changed", x.count(10) > 0 && x.count(11) > 0 && x.count(12) > 0 && x.count(1) > 50);
        long before = x.digest();
        Check.write(x, "garden z sticks 1 grows 1 thick 1;river 9 current 9;");
        CHECK.same("a wrong list", x.teach(), 5);
        CHECK.same("its place", x.errorAt(), 50);
        CHECK.same("all stays", x.digest(), before);
        CHECK.same("a list that does not end", Check.tell(x, "garden"), 1);
        CHECK.same("its place", x.errorAt(), 6);
        CHECK.same("all stays again", x.digest(), before);
        long foreseen = x.foresee(30, 10);
        CHECK.same("an unknown name", Check.tell(x, "whet q when 1=1;"), 3);
        CHECK.same("orders stay too", x.foresee(30, 10), foreseen);
        CHECK.same("an empty tape", x.teach(), 0);
        CHECK.same("has no error", x.errorAt(), -1);
        int[] due = {20, 50, 0, 0, 0, 0, 0, 0, 0, 0, 0, 0, 0, 20, 1, 0};
        for (int what = 0; what < due.length; what++) {
            CHECK.same("anew: count(" + what + ")", x.count(what), due[what]);
        }
        CHECK.same("anew: shade(3)", x.shade(3), 1);
        CHECK.same("anew: shade(0)", x.shade(0), 1);
        for (int what = 0; what <= 4; what++) {
            CHECK.same("anew: grade(0, " + what + ")", x.grade(0, what), what % 2 == 1 ? 8 : 0);
        }
        Check.tell(x, "garden g sticks 30 grows 2 thick 9;rack r holds 20;peeler p of g to r skill 4;"
                + "boat b holds 9 speed 5;");
        CHECK.same("anew: bundles", x.rack(0, 2), 0);
        CHECK.same("anew: room", x.rack(0, 1), 20);
        CHECK.same("anew: edge", x.peeler(0, 3), 20);
        CHECK.same("anew: peeled", x.peeler(0, 4), 0);
        CHECK.same("anew: brought", x.boat(0, 6), 0);
        CHECK.same("anew: mile", x.boat(0, 2), 0);
        CHECK.same("anew: way", x.boat(0, 3), 0);
        x.pass(1);
        x.whet(0);
        Check.tell(x, "garden g sticks 30 grows 2 thick 9;rack r holds 20;peeler p of g to r skill 4;");
        CHECK.same("anew: whetted", x.peeler(0, 5), 0);
        latestCounts();
    }

    private static void latestCounts() {
        QuillBoats x = Check.told("river 9 current 3;shade 4 is 0;price second 9;shade 5 is 2;river 8 current 0;"
                + "shade 4 is 3;price second 0;price fourth 50;");
        CHECK.same("the latest river", x.count(13), 8);
        CHECK.same("the latest current", x.count(14), 0);
        CHECK.same("the latest shade", x.shade(4), 3);
        CHECK.same("the other shade", x.shade(5), 2);
        CHECK.same("the latest price", x.grade(1, 1), 0);
        CHECK.same("the other price", x.grade(3, 1), 50);
        CHECK.same("a price that was not told", x.grade(2, 1), 3);
    }

    private static void due(String list, int error, int place) {
        QuillBoats x = new QuillBoats();
        CHECK.same("teach() of " + list, Check.tell(x, list), error);
        CHECK.same("errorAt() of " + list, x.errorAt(), place);
    }

    private static void fine(String list) {
        due(list, 0, -1);
    }

    private static void tokens() {
        fine("");
        fine(" \n ");
        fine("  garden\ng sticks 1 grows 1\n\nthick 1 ; ");
        fine("garden g sticks 1grows 1thick 1;");
        fine("river 000009 current 000000;");
        due("river 0000009 current 0;", 1, 6);
        due("river 1234567current 0;", 1, 6);
        fine("garden abcdefghij sticks 1 grows 1 thick 1;");
        due("garden abcdefghijk sticks 1 grows 1 thick 1;", 1, 7);
        due("garden gardens1234 sticks 1 grows 1 thick 1;", 1, 7);
        fine("garden garden1 sticks 1 grows 1 thick 1;");
        fine("garden z9 sticks 1 grows 1 thick 1;");
        due("garden 9z sticks 1 grows 1 thick 1;", 1, 7);
        due("gardeng sticks 1 grows 1 thick 1;", 1, 0);
        due("garden G sticks 1 grows 1 thick 1;", 1, 7);
        due("garden g_ sticks 1 grows 1 thick 1;", 1, 8);
        due("garden\tg sticks 1 grows 1 thick 1;", 1, 6);
        due("garden g\r\n sticks 1 grows 1 thick 1;", 1, 8);
        due("river 9 current 1;\u00e9", 1, 18);
        due("\u0000", 1, 0);
        due("river 9 current 1;.", 1, 18);
        due("river 9 current 1;aaaaaaaaaaaaaaaaaaaaaaaaaaaaaaaaaaa", 1, 18);
        fine(ALL + "rest p when 1<=2 and 2>=1;");
        int at = ALL.length();
        due(ALL + "rest p when 1< =2;", 1, at + 15);
        due(ALL + "rest p when 1=<2;", 1, at + 14);
        due(ALL + "rest p when 1==2;", 1, at + 14);
        due(ALL + "rest p when 1<>2;", 1, at + 14);
        for (String keyword : ("garden sticks grows thick rack holds peeler of to skill boat speed river current shade "
                + "is price first second third fourth whet load with rest when hour coins edge room store mile afloat "
                + "blunt not and or min max").split(" ")) {
            due("garden " + keyword + " sticks 1 grows 1 thick 1;", 1, 7);
            fine("garden " + keyword + "0 sticks 1 grows 1 thick 1;");
        }
    }

    private static void syntax() {
        due(";", 1, 0);
        due("river 9 current 1", 1, 17);
        due("river 9 current 1  \n", 1, 20);
        due("river 9 current 1;;", 1, 18);
        due("river 9;", 1, 7);
        due("river g current 1;", 1, 6);
        due("river -9 current 1;", 1, 6);
        due("garden g sticks 1 thick 1 grows 1;", 1, 18);
        due("rack r holds 5 speed 1;", 1, 15);
        due("boat b holds 5;", 1, 14);
        due("peeler p of g skill 1;", 1, 14);
        due("price 3 first;", 1, 6);
        due("shade 1 2;", 1, 8);
        int at = ALL.length();
        due(ALL + "whet p;", 1, at + 6);
        due(ALL + "rest p;", 1, at + 6);
        due(ALL + "rest p when;", 1, at + 11);
        due(ALL + "rest p when 1;", 1, at + 13);
        due(ALL + "rest p when 1<2<3;", 1, at + 15);
        due(ALL + "rest p when (1<2);", 1, at + 14);
        due(ALL + "rest p when [1];", 1, at + 14);
        due(ALL + "rest p when [1<2;", 1, at + 16);
        due(ALL + "rest p when not 1;", 1, at + 17);
        due(ALL + "rest p when 1<not 2;", 1, at + 14);
        due(ALL + "rest p when afloat;", 1, at + 18);
        due(ALL + "rest p when 1<2 or;", 1, at + 18);
        due(ALL + "rest p when or 1<2;", 1, at + 12);
        due(ALL + "rest p when 1<sticks;", 1, at + 20);
        due(ALL + "rest p when 1<store g;", 1, at + 20);
        due(ALL + "rest p when 1<g;", 1, at + 14);
        due(ALL + "rest p when 1<+2;", 1, at + 14);
        due(ALL + "rest p when 1<2*;", 1, at + 16);
        due(ALL + "rest p when 1<min(1);", 1, at + 19);
        due(ALL + "rest p when 1<min 1,2;", 1, at + 18);
        due(ALL + "rest p when 1<max(1,2,3);", 1, at + 21);
        due(ALL + "load b with 1 of g;", 1, at + 17);
        due(ALL + "load b with 1 first;", 1, at + 14);
        due(ALL + "load b with 1<2 of first;", 1, at + 13);
        due(ALL + "load b of first;", 1, at + 7);
        due(ALL + "load b with 1 of first when;", 1, at + 27);
        due(ALL + "load b with 1 of first hour=1;", 1, at + 23);
        fine(ALL + "load b with 1 of fourth when hour=1 and not blunt p or[afloat b and 1<2]or not not 1>2;");
        fine(ALL + "load b with -1--1*(hour+coins)/sticks g-edge p+room r of second;");
        fine(ALL + "whet p when min(mile b,store third)<=max(price first,-(1));");
    }

    private static String repeated(String text, int times) {
        return text.repeat(times);
    }

    private static void depths() {
        int at = (ALL + "rest p when ").length();
        String rest = ALL + "rest p when ";
        fine(rest + repeated("[", 8) + "1=1" + repeated("]", 8) + ";");
        due(rest + repeated("[", 9) + "1=1" + repeated("]", 9) + ";", 1, at + 8);
        fine(rest + repeated("not ", 8) + "1=1;");
        due(rest + repeated("not ", 9) + "1=1;", 1, at + 32);
        fine(rest + repeated("-", 8) + "1=1;");
        due(rest + repeated("-", 9) + "1=1;", 1, at + 8);
        fine(rest + repeated("(", 8) + "1" + repeated(")", 8) + "=1;");
        due(rest + repeated("(", 9) + "1" + repeated(")", 9) + "=1;", 1, at + 8);
        fine(rest + repeated("min(1,", 8) + "1" + repeated(")", 8) + "=1;");
        due(rest + repeated("min(1,", 9) + "1" + repeated(")", 9) + "=1;", 1, at + 51);
        fine(rest + repeated("max(", 8) + "1" + repeated(",1)", 8) + "=1;");
        due(rest + repeated("max(", 8) + "(1" + repeated(",1)", 9) + "=1;", 1, at + 32);
        fine(rest + "not[not[-(-(1))=1]];");
        fine(rest + "not[not[-(-(1))<-(-1)]];");
        due(rest + "not[not[-(-(1))=--1]]and not[not[-(-((1)))=1]];", 1, at + 37);
        fine(rest + repeated("-1+", 20) + repeated("(1)*", 9) + "1=1;");
        fine(rest + repeated("not[1=1]and ", 9) + "1=1;");
        fine(rest + "[[[[[[[1=1]]]]]]] and [[[[[[[[1=1]]]]]]]];");
        fine(rest + "1=" + repeated("-", 8) + "1 and not not not not 1=1;");
        due(rest + "not not not not not not not not -1=1;", 1, at + 32);
        fine(rest + "not not not not not not not -1=1;");
        fine(rest + "not not not not not not not 1-1=1-(1);");
        due(rest + "not not not not not not not not 1-1=1-(1);", 1, at + 38);
    }

    private static void depthsOfLoading() {
        String load = ALL + "load b with ";
        fine(load + repeated("-", 8) + "1 of first;");
        due(load + repeated("-", 9) + "1 of first;", 1, load.length() + 8);
        String test = load + "1 of first when ";
        fine(test + repeated("[", 8) + "1=1" + repeated("]", 8) + ";");
        due(test + repeated("[", 9) + "1=1" + repeated("]", 9) + ";", 1, test.length() + 8);
    }

    /** What was cut off is not read, though it may still lie behind the end. */
    private static void endsOfTheTape() {
        String rest = ALL + "rest p when 1<";
        QuillBoats x = new QuillBoats();
        Check.write(x, rest + "=2;");
        x.trim(rest.length());
        CHECK.same("a tape that is cut ahead of =", x.teach(), 1);
        CHECK.same("its place", x.errorAt(), rest.length());
        Check.write(x, "river 9 current 4;river 8 current 3;");
        x.trim(18);
        CHECK.same("a tape that is cut ahead of a line", x.teach(), 0);
        CHECK.same("the line is not told", x.count(13), 9);
        Check.write(x, "river 9 current 45");
        x.trim(17);
        x.feed(0x3b202020, 0x20202020, 0x20202020, 0x20202020, 0x20202020);
        CHECK.same("a number that is cut", x.teach(), 0);
        CHECK.same("its first digit", x.count(14), 4);
    }

    /** 400 tokens, nearly each with a step of its own. */
    private static void longestSum() {
        String place = GARDEN + RACK + PEELER;
        QuillBoats x = Check.told(place + "rest p when 1" + repeated("+1", 185) + "=186;");
        x.pass(1);
        CHECK.same("the longest sum", x.count(12), 1);
        due(place + "rest p when 1" + repeated("+1", 186) + "=187;", 1, place.length() + 13 + 372 + 1);
    }

    /** 80 lines with 5 tokens are 400; the end of the tape is none of them. */
    private static void manyTokens() {
        String river = "river 1 current 1;";
        String eighty = repeated(river, 80);
        fine(eighty);
        fine(eighty + "\n ");
        due(eighty + "river 1 current 1;", 1, eighty.length());
        due(eighty + "!", 1, eighty.length());
        due(eighty + " 12345678;", 1, eighty.length() + 1);
        String few = repeated(river, 79);
        due(few + "river 1 current 1 ", 1, eighty.length());
        due(few + "garden g sticks 1 grows 1 thick 1;", 1, few.length() + 24);
        due(few + "river 1 current;", 1, few.length() + 15);
        due(repeated(river, 79) + "river 0 current 1;", 5, few.length() + 6);
        due(repeated(river, 79) + "river 0 current 1;river 1 current 1;", 1, eighty.length());
    }

    private static void names() {
        due(GARDEN + GARDEN, 2, GARDEN.length() + 7);
        due(RACK + RACK, 2, RACK.length() + 5);
        due(ALL + PEELER, 2, ALL.length() + 7);
        due(BOAT + BOAT, 2, BOAT.length() + 5);
        fine("garden a sticks 1 grows 1 thick 1;rack a holds 5;peeler a of a to a skill 1;boat a holds 1 speed 1;"
                + "load a with sticks a+room a+edge a+mile a of first when blunt a or afloat a;");
        fine("garden a sticks 1 grows 1 thick 1;garden a1 sticks 1 grows 1 thick 1;garden a10 sticks 1 grows 1 "
                + "thick 1;garden b sticks 1 grows 1 thick 1;");
        fine("boat abcdefghi0 holds 1 speed 1;boat abcdefghi1 holds 1 speed 1;boat bbcdefghi1 holds 1 speed 1;");
        due(RACK + PEELER, 3, RACK.length() + 12);
        due(GARDEN + PEELER, 3, GARDEN.length() + 17);
        due(PEELER + GARDEN + RACK, 3, 12);
        due("garden g sticks 1 grows 1 thick 1;rack r holds 5;peeler p of r to g skill 1;", 3, 61);
        due("garden g sticks 1 grows 1 thick 1;rack r holds 5;peeler p of g to g skill 1;", 3, 66);
        int at = ALL.length();
        due(ALL + "whet b when 1=1;", 3, at + 5);
        due(ALL + "rest g when 1=1;", 3, at + 5);
        due(ALL + "load p with 1 of first;", 3, at + 5);
        due(ALL + "load b with sticks r of first;", 3, at + 19);
        due(ALL + "load b with room g of first;", 3, at + 17);
        due(ALL + "load b with edge b of first;", 3, at + 17);
        due(ALL + "load b with mile p of first;", 3, at + 17);
        due(ALL + "whet p when blunt b;", 3, at + 18);
        due(ALL + "whet p when afloat p;", 3, at + 19);
        due(GARDEN + RACK + PEELER + "load b with 1 of first;" + BOAT, 3, at - BOAT.length() + 5);
        fine(ALL + "load b with sticks g+room r+edge p+mile b of first when blunt p and afloat b;");
    }

    private static void counts() {
        StringBuilder gardens = new StringBuilder();
        StringBuilder racks = new StringBuilder();
        StringBuilder boats = new StringBuilder();
        for (int i = 0; i < 4; i++) {
            gardens.append("garden g").append(i).append(" sticks 1 grows 1 thick 1;");
            racks.append("rack r").append(i).append(" holds 1;");
            boats.append("boat b").append(i).append(" holds 1 speed 1;");
        }
        fine(gardens.toString() + racks + boats);
        due(gardens + GARDEN, 4, gardens.length() + 7);
        due(racks + RACK, 4, racks.length() + 5);
        due(boats + BOAT, 4, boats.length() + 5);
        due(gardens + "garden g3 sticks 1 grows 1 thick 1;", 2, gardens.length() + 7);
        StringBuilder peelers = new StringBuilder(GARDEN + RACK);
        for (int i = 0; i < 8; i++) {
            peelers.append("peeler p").append(i).append(" of g to r skill 1;");
        }
        fine(peelers.toString());
        due(peelers + PEELER, 4, peelers.length() + 7);
        due(peelers + "peeler p7 of g to r skill 1;", 2, peelers.length() + 7);
        StringBuilder orders = new StringBuilder(ALL);
        for (int i = 0; i < 20; i++) {
            orders.append(i % 3 == 0 ? "whet p when blunt p;" : i % 3 == 1 ? "rest p when blunt p;"
                    : "load b with 1 of first;");
        }
        fine(orders.toString());
        due(orders + "whet p when blunt p;", 4, orders.length());
        due(orders + "rest q when blunt p;", 4, orders.length());
        due(orders + "load q with 1 of first;", 4, orders.length());
    }

    private static void ranges() {
        range("garden g sticks ", " grows 1 thick 1;", 0, 99);
        range("garden g sticks 1 grows ", " thick 1;", 0, 20);
        range("garden g sticks 1 grows 1 thick ", ";", 1, 9);
        range("rack r holds ", ";", 1, 60);
        range("boat b holds ", " speed 1;", 1, 40);
        range("boat b holds 1 speed ", ";", 1, 9);
        range(GARDEN + RACK + "peeler p of g to r skill ", ";", 1, 9);
        range("river ", " current 1;", 1, 60);
        range("river 1 current ", ";", 0, 5);
        range("shade ", " is 1;", 0, 11);
        range("shade 1 is ", ";", 0, 3);
        range("price first ", ";", 0, 50);
        range("price fourth ", ";", 0, 50);
        range(ALL + "load b with ", " of first;", 0, 999999);
    }

    private static void range(String before, String behind, int least, int most) {
        fine(before + least + behind);
        fine(before + most + behind);
        due(before + "999999" + behind, most == 999999 ? 0 : 5, most == 999999 ? -1 : before.length());
        if (least > 0) {
            due(before + (least - 1) + behind, 5, before.length());
        }
        if (most < 999999) {
            due(before + (most + 1) + behind, 5, before.length());
        }
    }

    /** Error 1 is told ahead of all others; of these the first from left to right. */
    private static void orderOfErrors() {
        due("river 99 current 9;river", 1, 24);
        due("river 99 current 9;", 5, 6);
        due("rack r holds 0;rack r holds 1;", 5, 13);
        due("rack r holds 1;rack r holds 0;", 2, 20);
        due("peeler p of g to r skill 0;", 3, 12);
        due(GARDEN + RACK + "peeler p of g to r skill 0;" + BOAT + BOAT, 5, 74);
        due(BOAT + "load c with mile d of first;", 3, BOAT.length() + 5);
        due(ALL + "whet p when blunt q;garden g sticks 1 grows 1 thick 1;", 3, ALL.length() + 18);
    }
}

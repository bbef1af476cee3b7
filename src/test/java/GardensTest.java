/** Promises 6 to 20: what there is, and what is done by hand. */
public final class GardensTest {
    private static final Check CHECK = new Check("GardensTest");
    private static final int LOW = Integer.MIN_VALUE;
    private static final int HIGH = Integer.MAX_VALUE;
    private static final String PLACE = "garden g sticks 10 grows 3 thick 2;rack r holds 20;"
            + "peeler p of g to r skill 4;peeler q of g to r skill 3;boat b holds 6 speed 4;river 7 current 1;"
            + "price first 5;rest q when hour>9;";

    public static void main(String[] args) {
        counting();
        gardens();
        racksAndBundles();
        sunnyBundles();
        drying();
        latestDrying();
        peelers();
        boats();
        grades();
        shades();
        worths();
        whettingByHand();
        loadingByHand();
        setting();
        granting();
        CHECK.end();
    }

    private static void counting() {
        QuillBoats x = Check.told(PLACE);
        x.pass(7);
        x.load(0, 0, 6);
        x.pass(3);
        int[] due = {10, 78, 1, 1, 2, 1, 1, 7, 0, 0, 13, 6, 0, 7, 1, 0};
        for (int what = 0; what < due.length; what++) {
            CHECK.same("count(" + what + ")", x.count(what), due[what]);
        }
        x.pass(2);
        CHECK.same("carried orders", x.count(12), 2);
        x.setCurrent(3);
        CHECK.same("count(14)", x.count(14), 3);
        x.feed(1, 2, 3, 4, 5);
        CHECK.same("count(15)", x.count(15), 20);
        x.trim(9);
        CHECK.same("count(15)", x.count(15), 9);
        CHECK.outOfBounds("count(-1)", () -> x.count(-1));
        CHECK.outOfBounds("count(16)", () -> x.count(16));
        CHECK.outOfBounds("count(LOW)", () -> x.count(LOW));
        CHECK.outOfBounds("count(HIGH)", () -> x.count(HIGH));
    }

    private static void gardens() {
        QuillBoats x = Check.told("garden a sticks 0 grows 20 thick 9;garden b sticks 90 grows 12 thick 1;"
                + "garden c sticks 5 grows 7 thick 4;rack r holds 60;peeler p of b to r skill 2;"
                + "peeler q of c to r skill 9;peeler s of b to r skill 1;");
        int[][] due = {{0, 20, 9, 0}, {90, 12, 1, 2}, {5, 7, 4, 1}};
        for (int i = 0; i < due.length; i++) {
            for (int what = 0; what <= 3; what++) {
                CHECK.same("garden(" + i + ", " + what + ")", x.garden(i, what), due[i][what]);
            }
        }
        x.pass(1);
        CHECK.same("a grows", x.garden(0, 0), 20);
        CHECK.same("b grows to 99 at most", x.garden(1, 0), 96);
        CHECK.same("c grows, then is cut", x.garden(2, 0), 3);
        x.pass(1);
        CHECK.same("a does not grow in the second hour", x.garden(0, 0), 20);
        CHECK.same("no more are peeled than there are sticks", x.peeler(1, 4), 12);
        x.pass(10);
        CHECK.same("nor in any other hour of the day", x.garden(0, 0), 20);
        x.pass(1);
        CHECK.same("it grows on the next day", x.garden(0, 0), 40);
        x.pass(60);
        CHECK.same("at most 99", x.garden(0, 0), 99);
        CHECK.outOfBounds("garden(3, 0)", () -> x.garden(3, 0));
        CHECK.outOfBounds("garden(-1, 0)", () -> x.garden(-1, 0));
        CHECK.outOfBounds("garden(0, -1)", () -> x.garden(0, -1));
        CHECK.outOfBounds("garden(0, 4)", () -> x.garden(0, 4));
        CHECK.outOfBounds("garden(HIGH, LOW)", () -> x.garden(HIGH, LOW));
        growsInTheFirstHourOfADayAlone();
    }

    private static void growsInTheFirstHourOfADayAlone() {
        QuillBoats x = new QuillBoats();
        x.pass(5);
        Check.tell(x, "garden a sticks 1 grows 2 thick 9;");
        x.pass(7);
        CHECK.same("told in the day, it has not grown yet", x.garden(0, 0), 1);
        x.pass(1);
        CHECK.same("it grows in the first hour of the next day", x.garden(0, 0), 3);
    }

    private static void bundleIs(QuillBoats x, int rack, int place, int... due) {
        for (int what = 0; what < due.length; what++) {
            CHECK.same("hour " + x.count(0) + ": bundle(" + rack + ", " + place + ", " + what + ")",
                    x.bundle(rack, place, what), due[what]);
        }
    }

    private static void rackIs(QuillBoats x, int rack, int... due) {
        for (int what = 0; what < due.length; what++) {
            CHECK.same("hour " + x.count(0) + ": rack(" + rack + ", " + what + ")", x.rack(rack, what), due[what]);
        }
    }

    private static void racksAndBundles() {
        QuillBoats x = Check.told("rack e holds 60;" + PLACE);
        rackIs(x, 0, 60, 60, 0, 0);
        rackIs(x, 1, 20, 20, 0, 2);
        x.pass(1);
        bundleIs(x, 1, 0, 4, 2, 1, 0, 0);
        bundleIs(x, 1, 1, 3, 2, 1, 0, 0);
        rackIs(x, 1, 20, 13, 2, 2);
        x.pass(1);
        bundleIs(x, 1, 0, 4, 2, 2, 0, 0);
        bundleIs(x, 1, 2, 4, 2, 1, 0, 0);
        bundleIs(x, 1, 3, 2, 2, 1, 0, 0);
        rackIs(x, 1, 20, 7, 4, 2);
        x.pass(3);
        rackIs(x, 1, 20, 7, 4, 2);
        CHECK.same("the store", x.grade(0, 0), 0);
        x.pass(1);
        rackIs(x, 1, 20, 14, 2, 2);
        bundleIs(x, 1, 0, 4, 2, 5, 0, 0);
        bundleIs(x, 1, 1, 2, 2, 5, 0, 0);
        CHECK.same("the store", x.grade(0, 0), 7);
        CHECK.outOfBounds("a bundle that has left", () -> x.bundle(1, 2, 0));
        CHECK.outOfBounds("a bundle of an empty rack", () -> x.bundle(0, 0, 0));
        CHECK.outOfBounds("a bundle of no rack", () -> x.bundle(2, 0, 0));
        CHECK.outOfBounds("a bundle at -1", () -> x.bundle(1, -1, 0));
        CHECK.outOfBounds("a bundle of rack -1", () -> x.bundle(-1, 0, 0));
        CHECK.outOfBounds("bundle(1, 0, -1)", () -> x.bundle(1, 0, -1));
        CHECK.outOfBounds("bundle(1, 0, 5)", () -> x.bundle(1, 0, 5));
        CHECK.outOfBounds("bundle(HIGH, HIGH, 0)", () -> x.bundle(HIGH, HIGH, 0));
        CHECK.outOfBounds("bundle(1, LOW, 0)", () -> x.bundle(1, LOW, 0));
        CHECK.outOfBounds("rack(2, 0)", () -> x.rack(2, 0));
        CHECK.outOfBounds("rack(-1, 0)", () -> x.rack(-1, 0));
        CHECK.outOfBounds("rack(0, -1)", () -> x.rack(0, -1));
        CHECK.outOfBounds("rack(0, 4)", () -> x.rack(0, 4));
        fullRack();
        aLaterBundleLeavesAhead();
    }

    private static void fullRack() {
        QuillBoats x = Check.told("garden g sticks 99 grows 0 thick 9;rack r holds 10;peeler p of g to r skill 4;"
                + "peeler q of g to r skill 3;");
        x.pass(2);
        rackIs(x, 0, 10, 0, 3, 2);
        bundleIs(x, 0, 2, 3, 9, 1, 0, 2);
        CHECK.same("no room for the other", x.peeler(1, 4), 3);
        CHECK.same("whose edge stays", x.peeler(1, 3), 19);
        CHECK.same("sticks that are left", x.garden(0, 0), 89);
        x.pass(20);
        CHECK.same("nothing fits", x.peeler(0, 3), 18);
        QuillBoats y = Check.told("garden g sticks 99 grows 20 thick 9;rack r holds 60;"
                + "peeler a of g to r skill 1;peeler b of g to r skill 1;peeler c of g to r skill 1;"
                + "peeler d of g to r skill 1;peeler e of g to r skill 1;peeler f of g to r skill 1;");
        y.pass(10);
        rackIs(y, 0, 60, 0, 60, 6);
        bundleIs(y, 0, 59, 1, 9, 1, 0, 2);
        CHECK.outOfBounds("the bundle behind the last", () -> y.bundle(0, 60, 0));
    }

    private static void aLaterBundleLeavesAhead() {
        QuillBoats x = Check.told("garden g sticks 9 grows 0 thick 9;garden h sticks 8 grows 0 thick 1;"
                + "rack r holds 60;peeler p of g to r skill 9;peeler q of h to r skill 4;");
        x.pass(3);
        rackIs(x, 0, 60, 47, 2, 2);
        bundleIs(x, 0, 0, 9, 9, 3, 0, 2);
        bundleIs(x, 0, 1, 4, 1, 2, 0, 0);
        CHECK.same("the thin ones are in the store", x.grade(0, 0), 4);
        x.pass(1);
        rackIs(x, 0, 60, 51, 1, 2);
        CHECK.same("all thin ones are", x.grade(0, 0), 8);
    }

    private static void sunnyBundles() {
        QuillBoats x = Check.told("garden g sticks 9 grows 0 thick 1;garden h sticks 9 grows 0 thick 9;"
                + "rack r holds 60;rack s holds 60;peeler p of g to r skill 9;peeler q of h to s skill 9;"
                + "shade 0 is 0;shade 1 is 0;shade 2 is 0;shade 3 is 0;shade 4 is 0;shade 5 is 0;shade 6 is 2;"
                + "shade 7 is 3;shade 8 is 3;");
        int[] grades = {0, 0, 1, 1, 1, 2, 2};
        int[] thickGrades = {2, 2, 3, 3, 3, 3, 3};
        for (int hour = 0; hour < 7; hour++) {
            x.pass(1);
            bundleIs(x, 0, 0, 9, 1, hour < 6 ? 0 : 2, Math.min(6, hour + 1), grades[hour]);
            bundleIs(x, 1, 0, 9, 9, hour < 6 ? 0 : 2, Math.min(6, hour + 1), thickGrades[hour]);
        }
        x.pass(1);
        CHECK.same("a split quill is of the third grade", x.grade(2, 0), 9);
        bundleIs(x, 1, 0, 9, 9, 5, 6, 3);
        int[] gradeOfThick = {0, 0, 0, 1, 1, 1, 2, 2, 2};
        for (int thick = 1; thick <= 9; thick++) {
            QuillBoats y = Check.told("garden g sticks 9 grows 0 thick " + thick + ";rack r holds 60;"
                    + "peeler p of g to r skill 9;");
            y.pass(1);
            bundleIs(y, 0, 0, 9, thick, 1, 0, gradeOfThick[thick - 1]);
            CHECK.same("hours to dry with thick " + thick, y.dry(0, 0, 0), 3 * thick - 1);
            CHECK.same("the grade then with thick " + thick, y.dry(0, 0, 1), gradeOfThick[thick - 1]);
            y.pass(3 * thick - 2);
            CHECK.same("an hour ahead it is there", y.rack(0, 2), 1);
            CHECK.same("by the next hour it goes", y.dry(0, 0, 0), 1);
            y.pass(1);
            CHECK.same("then it has left", y.rack(0, 2), 0);
            CHECK.same("with its grade", y.grade(gradeOfThick[thick - 1], 0), 9);
        }
    }

    private static void drying() {
        QuillBoats x = Check.told("garden g sticks 2 grows 0 thick 2;rack r holds 60;peeler p of g to r skill 1;"
                + "shade 1 is 2;shade 2 is 0;shade 3 is 0;shade 4 is 0;shade 5 is 3;");
        x.pass(1);
        CHECK.same("dry(0, 0, 0)", x.dry(0, 0, 0), 5);
        CHECK.same("dry(0, 0, 1)", x.dry(0, 0, 1), 1);
        x.pass(1);
        CHECK.same("dry(0, 0, 0)", x.dry(0, 0, 0), 4);
        CHECK.same("dry(0, 1, 0)", x.dry(0, 1, 0), 5);
        x.setShade(3, 1);
        CHECK.same("by the shades as they are now", x.dry(0, 0, 0), 4);
        CHECK.same("less sun", x.dry(0, 0, 1), 0);
        CHECK.same("the other bundle", x.dry(0, 1, 0), 4);
        x.setShade(2, 3);
        CHECK.same("at once", x.dry(0, 0, 0), 1);
        x.pass(1);
        CHECK.same("it has left", x.rack(0, 2), 1);
        CHECK.outOfBounds("dry of a bundle that has left", () -> x.dry(0, 1, 0));
        CHECK.outOfBounds("dry at -1", () -> x.dry(0, -1, 0));
        CHECK.outOfBounds("dry of no rack", () -> x.dry(1, 0, 0));
        CHECK.outOfBounds("dry of rack -1", () -> x.dry(-1, 0, 0));
        CHECK.outOfBounds("dry(0, 0, 2)", () -> x.dry(0, 0, 2));
        CHECK.outOfBounds("dry(0, 0, -1)", () -> x.dry(0, 0, -1));
        CHECK.outOfBounds("dry(HIGH, LOW, HIGH)", () -> x.dry(HIGH, LOW, HIGH));
    }

    /** With one hour of shade a day 25 days are 300 hours; an hour more is too late. */
    private static void latestDrying() {
        for (int more = 0; more < 2; more++) {
            QuillBoats x = Check.told("garden g sticks 1 grows 0 thick 9;rack r holds 60;peeler p of g to r skill 1;"
                    + "shade 0 is 2;");
            x.pass(1);
            for (int hour = 0; hour < 12; hour++) {
                x.setShade(hour, 0);
            }
            CHECK.same("never", x.dry(0, 0, 0), -1);
            CHECK.same("never, so of no grade", x.dry(0, 0, 1), -1);
            x.setShade(more, 1);
            if (more == 1) {
                x.pass(1);
                x.setShade(1, 0);
                x.setShade(2, 1);
            }
            int due = more == 0 ? 300 : 277;
            CHECK.same("with an hour a day", x.dry(0, 0, 0), due);
            CHECK.same("all of its sun splits it", x.dry(0, 0, 1), 3);
            long before = x.digest();
            CHECK.same("again", x.dry(0, 0, 0), due);
            CHECK.same("nothing has changed", x.digest(), before);
        }
        QuillBoats y = Check.told("garden g sticks 1 grows 0 thick 9;rack r holds 60;peeler p of g to r skill 1;"
                + "shade 0 is 1;");
        y.pass(1);
        for (int hour = 0; hour < 12; hour++) {
            y.setShade(hour, hour == 1 ? 1 : 0);
        }
        CHECK.same("301 hours are too many", y.dry(0, 0, 0), -1);
        CHECK.same("and have no grade", y.dry(0, 0, 1), -1);
    }

    private static void peelerIs(QuillBoats x, int peeler, int... due) {
        for (int what = 0; what < due.length; what++) {
            CHECK.same("hour " + x.count(0) + ": peeler(" + peeler + ", " + what + ")", x.peeler(peeler, what),
                    due[what]);
        }
    }

    private static void peelers() {
        QuillBoats x = Check.told("garden f sticks 0 grows 0 thick 1;garden g sticks 99 grows 20 thick 1;"
                + "garden h sticks 99 grows 20 thick 1;rack q holds 1;rack r holds 60;rack s holds 60;"
                + "peeler a of g to s skill 5;peeler b of h to r skill 1;peeler c of f to r skill 9;");
        peelerIs(x, 0, 1, 2, 5, 20, 0, 0);
        peelerIs(x, 1, 2, 1, 1, 20, 0, 0);
        peelerIs(x, 2, 0, 1, 9, 20, 0, 0);
        x.pass(10);
        peelerIs(x, 0, 1, 2, 5, 10, 50, 0);
        peelerIs(x, 1, 2, 1, 1, 10, 10, 0);
        x.pass(1);
        peelerIs(x, 0, 1, 2, 5, 9, 55, 0);
        peelerIs(x, 1, 2, 1, 1, 9, 11, 0);
        x.pass(1);
        peelerIs(x, 0, 1, 2, 5, 8, 57, 0);
        peelerIs(x, 1, 2, 1, 1, 9, 11, 0);
        x.pass(7);
        peelerIs(x, 0, 1, 2, 5, 1, 71, 0);
        x.pass(1);
        peelerIs(x, 0, 1, 2, 5, 0, 73, 0);
        x.pass(5);
        peelerIs(x, 0, 1, 2, 5, 0, 73, 0);
        peelerIs(x, 1, 2, 1, 1, 9, 11, 0);
        peelerIs(x, 2, 0, 1, 9, 20, 0, 0);
        x.whet(0);
        peelerIs(x, 0, 1, 2, 5, 20, 73, 1);
        x.pass(1);
        peelerIs(x, 0, 1, 2, 5, 19, 78, 1);
        CHECK.outOfBounds("peeler(3, 0)", () -> x.peeler(3, 0));
        CHECK.outOfBounds("peeler(-1, 0)", () -> x.peeler(-1, 0));
        CHECK.outOfBounds("peeler(0, -1)", () -> x.peeler(0, -1));
        CHECK.outOfBounds("peeler(0, 6)", () -> x.peeler(0, 6));
    }

    private static void boatIs(QuillBoats x, int boat, int... due) {
        for (int what = 0; what < due.length; what++) {
            CHECK.same("hour " + x.count(0) + ": boat(" + boat + ", " + what + ")", x.boat(boat, what), due[what]);
        }
    }

    private static void boats() {
        QuillBoats x = Check.told("boat a holds 40 speed 9;" + PLACE);
        boatIs(x, 0, 40, 9, 0, 0, 0, -1, 0);
        boatIs(x, 1, 6, 4, 0, 0, 0, -1, 0);
        x.pass(6);
        x.load(1, 0, 6);
        boatIs(x, 1, 6, 4, 0, 1, 6, 0, 0);
        CHECK.same("in boats", x.count(9), 6);
        x.pass(1);
        boatIs(x, 1, 6, 4, 3, 1, 6, 0, 0);
        x.pass(1);
        boatIs(x, 1, 6, 4, 6, 1, 6, 0, 0);
        x.pass(1);
        boatIs(x, 1, 6, 4, 7, 2, 0, -1, 28);
        CHECK.same("coins", x.count(1), 78);
        CHECK.same("sold", x.count(11), 6);
        x.pass(1);
        boatIs(x, 1, 6, 4, 2, 2, 0, -1, 28);
        x.pass(1);
        boatIs(x, 1, 6, 4, 0, 0, 0, -1, 28);
        x.load(1, 0, 2);
        x.pass(1);
        boatIs(x, 1, 6, 4, 3, 1, 2, 0, 28);
        x.setCurrent(5);
        x.pass(2);
        boatIs(x, 1, 6, 4, 5, 1, 2, 0, 28);
        x.setCurrent(4);
        x.pass(2);
        boatIs(x, 1, 6, 4, 7, 2, 0, -1, 38);
        boatIs(x, 0, 40, 9, 0, 0, 0, -1, 0);
        CHECK.outOfBounds("boat(2, 0)", () -> x.boat(2, 0));
        CHECK.outOfBounds("boat(-1, 0)", () -> x.boat(-1, 0));
        CHECK.outOfBounds("boat(0, -1)", () -> x.boat(0, -1));
        CHECK.outOfBounds("boat(0, 7)", () -> x.boat(0, 7));
        twoBoatsAtTheMarket();
    }

    /** The first has made the prices sink for the second. */
    private static void twoBoatsAtTheMarket() {
        QuillBoats x = Check.told("garden g sticks 9 grows 0 thick 1;rack r holds 9;peeler p of g to r skill 9;"
                + "boat a holds 4 speed 9;boat b holds 5 speed 9;shade 0 is 3;river 1 current 0;price first 2;"
                + "load b with 5 of first;load a with 4 of first;");
        x.pass(2);
        boatIs(x, 0, 4, 9, 1, 2, 0, -1, 8);
        boatIs(x, 1, 5, 9, 1, 2, 0, -1, 4);
        CHECK.same("the glut is an hour's less", x.grade(0, 2), 8);
        CHECK.same("the price is nothing", x.grade(0, 3), 0);
        x.pass(1);
        boatIs(x, 0, 4, 9, 0, 0, 0, -1, 8);
        CHECK.same("the glut is two hours' less", x.grade(0, 2), 7);
        CHECK.same("the price is back", x.grade(0, 3), 1);
        x.pass(7);
        CHECK.same("no glut", x.grade(0, 2), 0);
        x.pass(1);
        CHECK.same("it stays so", x.grade(0, 2), 0);
        CHECK.same("the full price", x.grade(0, 3), 2);
    }

    private static void gradeIs(QuillBoats x, int grade, int... due) {
        for (int what = 0; what < due.length; what++) {
            CHECK.same("hour " + x.count(0) + ": grade(" + grade + ", " + what + ")", x.grade(grade, what),
                    due[what]);
        }
    }

    private static void grades() {
        QuillBoats x = Check.told(PLACE);
        x.pass(6);
        gradeIs(x, 0, 7, 5, 0, 5, 0);
        x.load(0, 0, 6);
        gradeIs(x, 0, 1, 5, 0, 5, 0);
        x.pass(3);
        gradeIs(x, 0, 7, 5, 5, 4, 6);
        gradeIs(x, 1, 0, 5, 0, 5, 0);
        gradeIs(x, 2, 0, 3, 0, 3, 0);
        gradeIs(x, 3, 0, 1, 0, 1, 0);
        x.pass(2);
        gradeIs(x, 0, 7, 5, 3, 5, 6);
        CHECK.outOfBounds("grade(4, 0)", () -> x.grade(4, 0));
        CHECK.outOfBounds("grade(-1, 0)", () -> x.grade(-1, 0));
        CHECK.outOfBounds("grade(0, -1)", () -> x.grade(0, -1));
        CHECK.outOfBounds("grade(0, 5)", () -> x.grade(0, 5));
        CHECK.outOfBounds("grade(HIGH, 0)", () -> x.grade(HIGH, 0));
    }

    private static void shades() {
        QuillBoats x = Check.told("shade 0 is 3;shade 11 is 0;shade 7 is 2;");
        for (int hour = 0; hour < 12; hour++) {
            CHECK.same("shade(" + hour + ")", x.shade(hour), hour == 0 ? 3 : hour == 11 ? 0 : hour == 7 ? 2 : 1);
        }
        CHECK.outOfBounds("shade(12)", () -> x.shade(12));
        CHECK.outOfBounds("shade(-1)", () -> x.shade(-1));
        CHECK.outOfBounds("shade(LOW)", () -> x.shade(LOW));
    }

    private static void worths() {
        QuillBoats x = Check.told(PLACE);
        CHECK.same("worth(0, 1)", x.worth(0, 1), 5);
        CHECK.same("worth(0, 4)", x.worth(0, 4), 20);
        CHECK.same("worth(0, 5)", x.worth(0, 5), 24);
        CHECK.same("worth(0, 20)", x.worth(0, 20), 4 * (5 + 4 + 3 + 2 + 1));
        CHECK.same("worth(0, 40)", x.worth(0, 40), 60);
        CHECK.same("worth(3, 40)", x.worth(3, 40), 4);
        x.pass(6);
        x.load(0, 0, 6);
        x.pass(3);
        long before = x.digest();
        CHECK.same("with a glut of 5", x.worth(0, 4), 4 * 3 + 3);
        CHECK.same("nothing is changed", x.digest(), before);
        CHECK.outOfBounds("worth(4, 1)", () -> x.worth(4, 1));
        CHECK.outOfBounds("worth(-1, 1)", () -> x.worth(-1, 1));
        CHECK.outOfBounds("worth(4, 0)", () -> x.worth(4, 0));
        CHECK.illegalArgument("worth(0, 0)", () -> x.worth(0, 0));
        CHECK.illegalArgument("worth(0, 41)", () -> x.worth(0, 41));
        CHECK.illegalArgument("worth(3, HIGH)", () -> x.worth(3, HIGH));
        CHECK.illegalArgument("worth(3, LOW)", () -> x.worth(3, LOW));
    }

    private static void whettingByHand() {
        QuillBoats x = Check.told("garden g sticks 99 grows 20 thick 1;rack r holds 60;peeler p of g to r skill 1;"
                + "peeler q of g to r skill 1;");
        CHECK.illegalState("a keen knife", () -> x.whet(0));
        CHECK.same("costs nothing", x.count(1), 50);
        x.grant(1);
        for (int i = 1; i <= 25; i++) {
            x.pass(1);
            CHECK.same("whet(0)", x.whet(0), 51 - 2 * i);
            CHECK.same("its edge", x.peeler(0, 3), 20);
            CHECK.same("how often", x.peeler(0, 5), i);
        }
        x.pass(1);
        long before = x.digest();
        CHECK.illegalState("one coin is too few", () -> x.whet(0));
        CHECK.same("nothing is changed", x.digest(), before);
        CHECK.same("edge", x.peeler(0, 3), 19);
        CHECK.same("by hand no order is carried out", x.count(12), 0);
        x.grant(1);
        CHECK.same("two coins are enough", x.whet(1), 0);
        CHECK.same("the other knife", x.peeler(1, 3), 20);
        CHECK.outOfBounds("whet(2)", () -> x.whet(2));
        CHECK.outOfBounds("whet(-1)", () -> x.whet(-1));
        CHECK.outOfBounds("whet(HIGH)", () -> x.whet(HIGH));
    }

    private static void loadingByHand() {
        QuillBoats x = Check.told(PLACE);
        CHECK.illegalState("an empty store", () -> x.load(0, 0, 6));
        x.pass(6);
        long before = x.digest();
        CHECK.illegalArgument("more than the boat holds", () -> x.load(0, 0, 7));
        CHECK.illegalArgument("none", () -> x.load(0, 0, 0));
        CHECK.illegalArgument("less than none", () -> x.load(0, 0, -1));
        CHECK.illegalArgument("none of a grade that there is not", () -> x.load(0, 1, 0));
        CHECK.illegalState("a grade that there is not", () -> x.load(0, 1, 1));
        CHECK.outOfBounds("no such boat", () -> x.load(1, 0, 1));
        CHECK.outOfBounds("boat -1", () -> x.load(-1, 0, 1));
        CHECK.outOfBounds("grade 4", () -> x.load(0, 4, 1));
        CHECK.outOfBounds("grade -1", () -> x.load(0, -1, 99));
        CHECK.outOfBounds("load(HIGH, LOW, LOW)", () -> x.load(HIGH, LOW, LOW));
        CHECK.same("nothing is changed", x.digest(), before);
        CHECK.same("load(0, 0, 5)", x.load(0, 0, 5), 5);
        CHECK.same("the store", x.grade(0, 0), 2);
        CHECK.same("afloat", x.boat(0, 3), 1);
        CHECK.illegalState("a boat that is afloat", () -> x.load(0, 0, 1));
        CHECK.illegalArgument("too many for a boat that is afloat", () -> x.load(0, 0, 7));
        x.pass(3);
        CHECK.illegalState("a boat on its way back", () -> x.load(0, 0, 1));
        CHECK.same("by hand no order is carried out", x.count(12), 0);
        QuillBoats y = Check.told("garden g sticks 3 grows 0 thick 1;rack r holds 9;peeler p of g to r skill 9;"
                + "boat b holds 9 speed 1;shade 0 is 3;");
        y.pass(1);
        CHECK.same("no more than the store has", y.load(0, 0, 9), 3);
        CHECK.same("the store is empty", y.count(7), 0);
    }

    private static void setting() {
        QuillBoats x = new QuillBoats();
        CHECK.same("setShade(0, 3)", x.setShade(0, 3), 1);
        CHECK.same("setShade(0, 0)", x.setShade(0, 0), 3);
        CHECK.same("setShade(11, 2)", x.setShade(11, 2), 1);
        CHECK.same("shade(0)", x.shade(0), 0);
        CHECK.same("shade(11)", x.shade(11), 2);
        CHECK.same("shade(1)", x.shade(1), 1);
        CHECK.outOfBounds("setShade(12, 0)", () -> x.setShade(12, 0));
        CHECK.outOfBounds("setShade(-1, 4)", () -> x.setShade(-1, 4));
        CHECK.illegalArgument("setShade(0, 4)", () -> x.setShade(0, 4));
        CHECK.illegalArgument("setShade(11, -1)", () -> x.setShade(11, -1));
        CHECK.same("refused, so shade(11)", x.shade(11), 2);
        CHECK.same("setCurrent(5)", x.setCurrent(5), 1);
        CHECK.same("setCurrent(0)", x.setCurrent(0), 5);
        CHECK.same("current", x.count(14), 0);
        CHECK.illegalArgument("setCurrent(6)", () -> x.setCurrent(6));
        CHECK.illegalArgument("setCurrent(-1)", () -> x.setCurrent(-1));
        CHECK.same("refused, so the current", x.setCurrent(2), 0);
    }

    private static void granting() {
        QuillBoats x = new QuillBoats();
        CHECK.same("grant(1)", x.grant(1), 51);
        CHECK.illegalArgument("grant(0)", () -> x.grant(0));
        CHECK.illegalArgument("grant(-1)", () -> x.grant(-1));
        CHECK.illegalArgument("grant(10000)", () -> x.grant(10000));
        CHECK.illegalArgument("grant(HIGH)", () -> x.grant(HIGH));
        CHECK.same("coins", x.count(1), 51);
        for (int i = 1; i <= 9; i++) {
            CHECK.same("grant(9999)", x.grant(9999), 51 + 9999 * i);
        }
        CHECK.same("grant(9956)", x.grant(9956), 99998);
        CHECK.same("to the brim", x.grant(1), 99999);
        CHECK.same("what is more is lost", x.grant(9999), 99999);
        CHECK.same("coins", x.count(1), 99999);
    }
}

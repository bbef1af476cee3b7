/** Promises 21 to 27: hours that go by, and what would be. */
public final class HoursTest {
    private static final Check CHECK = new Check("HoursTest");
    private static final int LOW = Integer.MIN_VALUE;
    private static final int HIGH = Integer.MAX_VALUE;
    private static final String PLACE = "garden g sticks 10 grows 3 thick 2;rack r holds 20;"
            + "peeler p of g to r skill 4;peeler q of g to r skill 3;boat b holds 6 speed 4;river 7 current 1;"
            + "price first 5;";

    public static void main(String[] args) {
        passing();
        stepsOfAnHour();
        cappedCoins();
        until();
        slowestBoat();
        foreseeing();
        advising();
        adviceThatDiffers();
        best();
        bestOfSeveral();
        mean();
        digest();
        CHECK.end();
    }

    private static void passing() {
        QuillBoats x = Check.told(PLACE);
        CHECK.same("pass(1)", x.pass(1), 7);
        CHECK.same("the hour", x.count(0), 1);
        CHECK.same("pass(1) with few sticks", x.pass(1), 6);
        CHECK.same("pass(10) without", x.pass(10), 0);
        CHECK.same("pass(1) of the next day", x.pass(1), 3);
        CHECK.same("peeled in all", x.count(10), 16);
        CHECK.same("pass(120)", x.pass(120), 30);
        CHECK.same("the hour", x.count(0), 133);
        CHECK.illegalArgument("pass(0)", () -> x.pass(0));
        CHECK.illegalArgument("pass(-1)", () -> x.pass(-1));
        CHECK.illegalArgument("pass(121)", () -> x.pass(121));
        CHECK.illegalArgument("pass(HIGH)", () -> x.pass(HIGH));
        CHECK.illegalArgument("pass(LOW)", () -> x.pass(LOW));
        CHECK.same("refused, so the hour", x.count(0), 133);
        QuillBoats y = Check.told(PLACE);
        QuillBoats z = Check.told(PLACE);
        y.pass(37);
        for (int i = 0; i < 37; i++) {
            z.pass(1);
        }
        CHECK.same("hours by ones and at once", y.digest(), z.digest());
    }

    /** Orders come ahead of growing, peeling and drying; quills that dry can be loaded in the next hour only. */
    private static void stepsOfAnHour() {
        QuillBoats x = Check.told("garden g sticks 0 grows 4 thick 1;rack r holds 2;peeler p of g to r skill 4;"
                + "peeler q of g to r skill 4;boat b holds 9 speed 1;river 1 current 5;shade 0 is 3;"
                + "load b with 9 of first;rest p when sticks g>0;");
        CHECK.same("sticks grow ahead of peeling", x.pass(1), 2);
        CHECK.same("peelers by numbers: the first fills the rack", x.peeler(0, 4), 2);
        CHECK.same("the other has no room yet", x.peeler(1, 4), 0);
        CHECK.same("bundles dry in the hour in which they come", x.grade(0, 0), 2);
        CHECK.same("orders looked at no sticks", x.count(12), 0);
        x.pass(1);
        CHECK.same("a boat goes up in the hour in which it is loaded, and sells", x.boat(0, 6), 16);
        CHECK.same("then it is on its way back", x.boat(0, 3), 2);
        CHECK.same("at the market", x.boat(0, 2), 1);
        CHECK.same("a loading and a rest", x.count(12), 2);
        CHECK.same("so the other peels", x.peeler(1, 4), 2);
        x.pass(1);
        CHECK.same("on its way back from the next hour on", x.boat(0, 3), 0);
    }

    private static void cappedCoins() {
        QuillBoats x = Check.told("garden g sticks 9 grows 9 thick 1;rack r holds 9;peeler p of g to r skill 9;"
                + "boat b holds 9 speed 9;river 1 current 0;shade 0 is 3;price first 50;"
                + "load b with 9 of first when store first=9;");
        x.pass(1);
        for (int i = 0; i < 11; i++) {
            x.grant(9999);
        }
        x.whet(0);
        CHECK.same("coins", x.count(1), 99997);
        x.pass(1);
        CHECK.same("what is more is lost at the end of the hour", x.count(1), 99999);
        CHECK.same("but the boat has brought it", x.boat(0, 6), 4 * 50 + 4 * 49 + 48);
        CHECK.same("9 are sold", x.grade(0, 4), 9);
        CHECK.same("in all", x.count(11), 9);
    }

    private static void until() {
        QuillBoats x = Check.told(PLACE + "load b with 6 of first when hour=11;");
        CHECK.same("a boat that lies there", x.until(0), 0);
        x.pass(6);
        x.load(0, 0, 6);
        for (int hours = 5; hours >= 1; hours--) {
            long before = x.digest();
            CHECK.same("until(0)", x.until(0), hours);
            CHECK.same("nothing is changed", x.digest(), before);
            x.pass(1);
        }
        CHECK.same("it is back", x.boat(0, 3), 0);
        CHECK.same("and would be loaded by an order now", x.until(0), 0);
        x.pass(1);
        CHECK.same("it was", x.boat(0, 3), 1);
        CHECK.same("until(0)", x.until(0), 4);
        x.setCurrent(3);
        CHECK.same("against the current", x.until(0), 5);
        x.setCurrent(5);
        CHECK.same("against all of it", x.until(0), 5);
        CHECK.outOfBounds("until(1)", () -> x.until(1));
        CHECK.outOfBounds("until(-1)", () -> x.until(-1));
        CHECK.outOfBounds("until(HIGH)", () -> x.until(HIGH));
    }

    private static void slowestBoat() {
        QuillBoats x = Check.told("garden g sticks 1 grows 0 thick 1;rack r holds 9;peeler p of g to r skill 1;"
                + "boat b holds 9 speed 1;river 60 current 0;shade 0 is 3;");
        x.pass(1);
        x.load(0, 0, 1);
        CHECK.same("60 up and 60 down", x.until(0), 120);
        x.setCurrent(5);
        CHECK.same("60 up and 10 down", x.until(0), 70);
    }

    private static void foreseeing() {
        QuillBoats x = Check.told(PLACE + "load b with 6 of first when store first>=6;rest q when hour=1;"
                + "whet p when edge p<19;");
        for (int hours : new int[] {1, 2, 6, 7, 10, 13, 40, 120}) {
            QuillBoats y = Check.told(PLACE + "load b with 6 of first when store first>=6;rest q when hour=1;"
                    + "whet p when edge p<19;");
            y.pass(hours);
            long before = x.digest();
            for (int what : new int[] {1, 7, 8, 9, 10, 11, 12}) {
                CHECK.same("foresee(" + hours + ", " + what + ")", x.foresee(hours, what), y.count(what));
            }
            CHECK.same("nothing is changed", x.digest(), before);
        }
        CHECK.same("foresee(1, 10)", x.foresee(1, 10), 7);
        CHECK.same("foresee(1, 8)", x.foresee(1, 8), 7);
        CHECK.same("foresee(6, 7)", x.foresee(6, 7), 7);
        CHECK.same("foresee(7, 9)", x.foresee(7, 9), 6);
        CHECK.same("foresee(9, 11)", x.foresee(9, 11), 6);
        x.pass(3);
        CHECK.same("what was peeled ahead counts too", x.foresee(1, 10), x.count(10));
        for (int what : new int[] {-1, 0, 2, 3, 4, 5, 6, 13, 14, 15, 16, LOW, HIGH}) {
            CHECK.outOfBounds("foresee(1, " + what + ")", () -> x.foresee(1, what));
            CHECK.illegalArgument("foresee(0, " + what + ")", () -> x.foresee(0, what));
        }
        CHECK.illegalArgument("foresee(121, 1)", () -> x.foresee(121, 1));
        CHECK.illegalArgument("foresee(-1, 1)", () -> x.foresee(-1, 1));
        CHECK.illegalArgument("foresee(HIGH, 1)", () -> x.foresee(HIGH, 1));
    }

    /** Nine quills of each of the grades 0 and 1, and of 2 if there are thick ones, behind an hour or more. */
    private static final String DRY = "garden g sticks 9 grows 0 thick 1;garden h sticks 9 grows 0 thick 4;"
            + "rack r holds 60;peeler p of g to r skill 9;peeler q of h to r skill 9;"
            + "boat b holds 6 speed 4;boat c holds 1 speed 9;river 8 current 0;shade 0 is 3;shade 1 is 3;"
            + "shade 2 is 3;shade 3 is 3;";

    private static void advising() {
        QuillBoats x = Check.told(DRY + "price first 8;price second 7;");
        CHECK.same("an empty store", x.advise(0, 50), -1);
        x.pass(4);
        CHECK.same("first", x.grade(0, 0), 9);
        CHECK.same("second", x.grade(1, 0), 9);
        long before = x.digest();
        CHECK.same("not at the market by then", x.advise(0, 1), -1);
        CHECK.same("at the market just then", x.advise(0, 2), 0);
        CHECK.same("the dearest", x.advise(0, 50), 0);
        CHECK.same("the fast boat", x.advise(1, 1), 0);
        CHECK.same("nothing is changed", x.digest(), before);
        CHECK.outOfBounds("advise(2, 1)", () -> x.advise(2, 1));
        CHECK.outOfBounds("advise(-1, 0)", () -> x.advise(-1, 0));
        CHECK.outOfBounds("advise(2, 101)", () -> x.advise(2, 101));
        CHECK.illegalArgument("advise(0, 0)", () -> x.advise(0, 0));
        CHECK.illegalArgument("advise(0, 101)", () -> x.advise(0, 101));
        CHECK.illegalArgument("advise(1, HIGH)", () -> x.advise(1, HIGH));
        CHECK.illegalArgument("advise(1, LOW)", () -> x.advise(1, LOW));
        CHECK.same("advise(0, 100)", x.advise(0, 100), 0);
        x.load(0, 1, 6);
        CHECK.same("a boat that is afloat", x.advise(0, 50), -1);
        CHECK.same("the other boat", x.advise(1, 50), 0);
    }

    private static void adviceThatDiffers() {
        QuillBoats x = Check.told(DRY + "price first 7;price second 8;");
        x.pass(4);
        CHECK.same("the second is dearer", x.advise(0, 50), 1);
        QuillBoats y = Check.told(DRY + "price first 7;price second 7;");
        y.pass(4);
        CHECK.same("of several the smallest number", y.advise(0, 50), 0);
        QuillBoats z = Check.told(DRY + "price first 0;price second 0;");
        z.pass(4);
        CHECK.same("none brings more", z.advise(0, 50), -1);
        QuillBoats w = Check.told(DRY + "price first 9;price second 7;load b with 6 of second when hour=4;"
                + "load c with 1 of first when hour=4;");
        w.pass(4);
        CHECK.same("an order would load it with the second", w.advise(0, 2), 0);
        QuillBoats v = Check.told(DRY + "price first 9;price second 7;load b with 6 of first when hour=4;");
        v.pass(4);
        CHECK.same("an order would load it with the first", v.advise(0, 2), -1);
        QuillBoats u = Check.told(DRY + "price first 6;price second 5;");
        u.pass(4);
        u.load(1, 0, 1);
        u.pass(1);
        CHECK.same("the first is still dearer", u.advise(0, 9), 0);
        full(Check.told(DRY + "price first 8;price second 7;"));
    }

    /** With all coins that there can be nothing can bring more. */
    private static void full(QuillBoats x) {
        x.pass(4);
        for (int i = 0; i < 11; i++) {
            x.grant(9999);
        }
        CHECK.same("no more coins can be had", x.advise(0, 50), -1);
    }

    private static final String THREE = "garden g sticks 99 grows 20 thick 1;rack r holds 60;rack s holds 60;"
            + "rack t holds 60;peeler p of g to r skill 1;peeler q of g to s skill 2;peeler u of g to t skill 2;";

    private static void best() {
        QuillBoats x = Check.told(THREE);
        CHECK.same("all knives are keen", x.best(60), -1);
        x.pass(11);
        CHECK.same("edges", x.peeler(0, 3) * 10000 + x.peeler(1, 3) * 100 + x.peeler(2, 3), 90909);
        long before = x.digest();
        CHECK.same("each peels 1 more, so the first", x.best(1), 0);
        CHECK.same("nothing is changed", x.digest(), before);
        x.whet(0);
        CHECK.same("now the second", x.best(1), 1);
        x.whet(1);
        CHECK.same("now the third", x.best(1), 2);
        x.whet(2);
        CHECK.same("now none", x.best(60), -1);
        CHECK.illegalArgument("best(0)", () -> x.best(0));
        CHECK.illegalArgument("best(61)", () -> x.best(61));
        CHECK.illegalArgument("best(-1)", () -> x.best(-1));
        CHECK.illegalArgument("best(HIGH)", () -> x.best(HIGH));
        x.pass(1);
        CHECK.same("knives that are keen enough", x.best(1), -1);
        CHECK.same("best(10)", x.best(10), -1);
        CHECK.same("by the eleventh hour it tells", x.best(11), 0);
        CHECK.same("best(60)", x.best(60), 1);
    }

    private static void bestOfSeveral() {
        QuillBoats x = Check.told("garden g sticks 99 grows 20 thick 1;garden h sticks 99 grows 20 thick 1;"
                + "garden i sticks 99 grows 0 thick 1;rack r holds 60;rack s holds 60;peeler p of g to r skill 1;"
                + "peeler q of h to r skill 5;peeler u of i to s skill 8;whet u when blunt u;");
        x.pass(11);
        CHECK.same("4 more are the most", x.best(1), 2);
        CHECK.same("only 11 sticks are left there, so now the other", x.best(2), 1);
        QuillBoats y = Check.told("garden g sticks 99 grows 20 thick 1;rack r holds 60;peeler p of g to r skill 1;");
        for (int i = 0; i < 25; i++) {
            y.pass(1);
            y.whet(0);
        }
        y.pass(11);
        CHECK.same("no coins", y.best(60), -1);
        y.grant(1);
        CHECK.same("one coin", y.best(60), -1);
        y.grant(1);
        CHECK.same("two coins", y.best(60), 0);
    }

    private static void same(String what, double got, double due) {
        CHECK.same(what, Double.doubleToLongBits(got), Double.doubleToLongBits(due));
    }

    private static void mean() {
        QuillBoats x = new QuillBoats();
        same("mean() without knives", x.mean(), 0.0);
        Check.tell(x, THREE);
        same("mean()", x.mean(), 20.0);
        x.pass(1);
        same("mean()", x.mean(), 19.0);
        x.whet(0);
        same("mean()", x.mean(), 58.0 / 3.0);
        x.whet(1);
        same("mean()", x.mean(), 59.0 / 3.0);
        x.pass(40);
        x.teach();
        same("mean() without knives again", x.mean(), 0.0);
    }

    private static long sum(long start, long... numbers) {
        long d = start;
        for (long x : numbers) {
            d = d * 31 + x;
        }
        return d;
    }

    private static void digest() {
        QuillBoats x = new QuillBoats();
        long counts = sum(1571, 0, 50, 0, 0, 0, 0, 0, 0, 0, 0, 0, 0, 0, 20, 1, 0);
        long shades = sum(counts, 1, 1, 1, 1, 1, 1, 1, 1, 1, 1, 1, 1);
        CHECK.same("digest() of a new object", x.digest(),
                sum(shades, 0, 8, 0, 8, 0, 0, 5, 0, 5, 0, 0, 3, 0, 3, 0, 0, 1, 0, 1, 0));
        Check.tell(x, PLACE + "shade 3 is 2;");
        x.pass(2);
        x.feed(1, 2, 3, 4, 5);
        counts = sum(1571, 2, 50, 1, 1, 2, 1, 0, 0, 13, 0, 13, 0, 0, 7, 1, 20);
        shades = sum(counts, 1, 1, 1, 2, 1, 1, 1, 1, 1, 1, 1, 1);
        long gardens = sum(shades, 0, 3, 2, 2);
        long racks = sum(gardens, 20, 7, 4, 2, 4, 2, 2, 0, 0, 3, 2, 2, 0, 0, 4, 2, 1, 0, 0, 2, 2, 1, 0, 0);
        long peelers = sum(racks, 0, 0, 4, 18, 8, 0, 0, 0, 3, 18, 5, 0);
        long boats = sum(peelers, 6, 4, 0, 0, 0, -1, 0);
        CHECK.same("digest() behind two hours", x.digest(),
                sum(boats, 0, 5, 0, 5, 0, 0, 5, 0, 5, 0, 0, 3, 0, 3, 0, 0, 1, 0, 1, 0));
    }
}

import java.util.function.ToLongFunction;

/** The edges of promises 6 to 27: what is taken and what is refused, and that a refused call changes nothing. */
public final class CallEdgesTest {
    private static final Check CHECK = new Check("CallEdgesTest");
    private static final int LOW = Integer.MIN_VALUE;
    private static final int HIGH = Integer.MAX_VALUE;
    private static final Refusals OF_NONE = new Refusals(CHECK, QuillBoats::new);
    private static final Refusals OF_ONE = new Refusals(CHECK, CallEdgesTest::one);
    private static final Refusals OF_ALL = new Refusals(CHECK, CallEdgesTest::all);

    /** One of each; a boat that holds 6 lies at the landing, 9 quills of the first grade are in the store. */
    private static QuillBoats one() {
        QuillBoats x = Check.told("garden g sticks 99 grows 0 thick 1;rack r holds 60;peeler p of g to r skill 9;"
                + "boat b holds 6 speed 2;river 7 current 0;shade 0 is 3;rest p when room r<50;");
        x.pass(2);
        Check.tell(x, "rack !");
        Check.write(x, "river 5 current 5;rack");
        return x;
    }

    /** As many as there may be of each, in the midst of it all; the boats 0 and 1 are afloat. */
    private static QuillBoats all() {
        StringBuilder list = new StringBuilder();
        for (int i = 0; i < 4; i++) {
            list.append("garden g").append(i).append(" sticks 90 grows 9 thick ").append(i * 2 + 1).append(";");
            list.append("rack r").append(i).append(" holds ").append(60 - i).append(";");
            list.append("boat b").append(i).append(" holds ").append(i == 3 ? 40 : i + 1).append(" speed 2;");
        }
        for (int i = 0; i < 8; i++) {
            list.append("peeler p").append(i).append(" of g").append(i % 4).append(" to r").append(i / 2)
                    .append(" skill ").append(i + 1).append(";");
        }
        list.append("load b0 with 9 of first when hour=5;load b1 with 1 of second;whet p7 when edge p7<14;");
        QuillBoats x = Check.told(list.toString());
        x.pass(17);
        Check.tell(x, "boat");
        Check.write(x, "river 9 current 0;");
        return x;
    }

    public static void main(String[] args) {
        counts();
        gardens();
        racks();
        bundles();
        drying();
        peelers();
        boats();
        grades();
        shades();
        worths();
        whetting();
        whettingWithFewCoins();
        loading();
        loadingOfAllBoats();
        loadingIsRefusedInThisOrder();
        settingShades();
        settingTheCurrent();
        granting();
        passing();
        until();
        foreseeing();
        foreseeingQuillsOfAllGrades();
        advising();
        best();
        means();
        digests();
        tellingChangesNothing();
        fiveHundredAndTwelveCalls();
        CHECK.end();
    }

    private interface Call {
        long of(QuillBoats x, int number);
    }

    private static int[] numbersOutside(int least, int most) {
        return new int[] {LOW, -1000, least - 2, least - 1, most + 1, most + 2, 256 + least, 65536 + least, HIGH};
    }

    private static void taken(Refusals refusals, String what, int least, int most, Call call) {
        for (int n = least; n <= most; n++) {
            int number = n;
            refusals.taken(what + " of " + n, x -> call.of(x, number));
        }
    }

    /** Refused outside of the least and the most. */
    private static void refused(Refusals refusals, String what, int least, int most, Call call) {
        for (int n : numbersOutside(least, most)) {
            refusals.outOfBounds(what + " of " + n, x -> call.of(x, n));
        }
    }

    /** Taken from the least to the most, out of bounds outside. */
    private static void outside(Refusals refusals, String what, int least, int most, Call call) {
        refused(refusals, what, least, most, call);
        taken(refusals, what, least, most, call);
    }

    /** Taken from the least to the most, a wrong argument outside. */
    private static void wrong(Refusals refusals, String what, int least, int most, Call call) {
        for (int n : numbersOutside(least, most)) {
            refusals.illegalArgument(what + " of " + n, x -> call.of(x, n));
        }
        taken(refusals, what, least, most, call);
    }

    /** Nothing is taken: there is none of it. */
    private static void none(String what, Call call) {
        for (int n : new int[] {LOW, -1, 0, 1, 2, 3, 4, 7, 8, HIGH}) {
            OF_NONE.outOfBounds("of nothing: " + what + " of " + n, x -> call.of(x, n));
        }
    }

    /** "if what is not 0 to 15" */
    private static void counts() {
        for (Refusals refusals : new Refusals[] {OF_NONE, OF_ONE, OF_ALL}) {
            outside(refusals, "count", 0, 15, (x, n) -> x.count(n));
        }
        QuillBoats x = all();
        CHECK.same("gardens, racks, peelers, boats, orders", x.count(2) * 10000 + x.count(3) * 1000 + x.count(4) * 100
                + x.count(5) * 10 + x.count(6), 44843);
    }

    /** "if there is no such garden, or what is not 0 to 3" */
    private static void gardens() {
        none("garden", (x, n) -> x.garden(n, 0));
        outside(OF_ONE, "garden", 0, 0, (x, n) -> x.garden(n, 0));
        outside(OF_ALL, "garden", 0, 3, (x, n) -> x.garden(n, 3));
        outside(OF_ONE, "what of a garden", 0, 3, (x, n) -> x.garden(0, n));
        outside(OF_ALL, "what of a garden", 0, 3, (x, n) -> x.garden(3, n));
        OF_ALL.outOfBounds("garden(4, 4)", x -> x.garden(4, 4));
    }

    /** "if there is no such rack, or what is not 0 to 3" */
    private static void racks() {
        none("rack", (x, n) -> x.rack(n, 0));
        outside(OF_ONE, "rack", 0, 0, (x, n) -> x.rack(n, 0));
        outside(OF_ALL, "rack", 0, 3, (x, n) -> x.rack(n, 3));
        outside(OF_ONE, "what of a rack", 0, 3, (x, n) -> x.rack(0, n));
        outside(OF_ALL, "what of a rack", 0, 3, (x, n) -> x.rack(3, n));
        OF_ALL.outOfBounds("rack(-1, -1)", x -> x.rack(-1, -1));
    }

    /** "if there is no such rack or bundle, or what is not 0 to 4" */
    private static void bundles() {
        none("bundle on a rack", (x, n) -> x.bundle(n, 0, 0));
        QuillBoats x = all();
        for (int rack = 0; rack < 4; rack++) {
            int r = rack;
            int many = x.rack(rack, 2);
            CHECK.isTrue("bundles on rack " + rack + ": " + many, many > 0);
            outside(OF_ALL, "place on rack " + rack, 0, many - 1, (y, n) -> y.bundle(r, n, 0));
            outside(OF_ALL, "what of the last bundle on rack " + rack, 0, 4, (y, n) -> y.bundle(r, many - 1, n));
        }
        outside(OF_ALL, "rack of a bundle", 0, 3, (y, n) -> y.bundle(n, 0, 4));
        outside(OF_ONE, "rack of a bundle", 0, 0, (y, n) -> y.bundle(n, 0, 0));
        OF_ALL.outOfBounds("bundle(4, 60, 5)", y -> y.bundle(4, 60, 5));
        QuillBoats full = Check.told("garden g sticks 99 grows 0 thick 9;rack r holds 60;" + lines("peeler p", 6,
                " of g to r skill 1;"));
        CHECK.outOfBounds("a bundle of an empty rack", () -> full.bundle(0, 0, 0));
        full.pass(10);
        CHECK.same("60 bundles", full.rack(0, 2), 60);
        CHECK.row("the 60th", what -> full.bundle(0, 59, what), 1, 9, 1, 0, 2);
        CHECK.outOfBounds("the 61st", () -> full.bundle(0, 60, 0));
    }

    private static String lines(String before, int many, String behind) {
        StringBuilder text = new StringBuilder();
        for (int i = 0; i < many; i++) {
            text.append(before).append(i).append(behind);
        }
        return text.toString();
    }

    /** "if there is no such rack or bundle, or what is not 0 or 1"; "-1 for each, if it is not within 300 hours" */
    private static void drying() {
        none("drying on a rack", (x, n) -> x.dry(n, 0, 0));
        outside(OF_ALL, "rack to dry on", 0, 3, (x, n) -> x.dry(n, 0, 0));
        outside(OF_ALL, "place to dry at", 0, all().rack(1, 2) - 1, (x, n) -> x.dry(1, n, 1));
        outside(OF_ALL, "what of drying", 0, 1, (x, n) -> x.dry(3, 0, n));
        outside(OF_ONE, "what of drying", 0, 1, (x, n) -> x.dry(0, 0, n));
        OF_ALL.outOfBounds("dry(-1, -1, -1)", x -> x.dry(-1, -1, -1));
        for (int lacking = 1; lacking <= 26; lacking++) {
            driesWithOneHourADay(lacking);
        }
    }

    /** With one hour of shade a day: the 25th such hour is within 300 at the latest, the 26th is not at all. */
    private static void driesWithOneHourADay(int lacking) {
        QuillBoats x = Check.told("garden g sticks 1 grows 0 thick 9;rack r holds 60;peeler p of g to r skill 1;"
                + "shade 0 is 0;");
        x.pass(1);
        x.setShade(0, 1);
        x.pass(27 - lacking);
        CHECK.same("dried", x.bundle(0, 0, 2), 27 - lacking);
        for (int hour = 0; hour < 12; hour++) {
            x.setShade(hour, 0);
        }
        CHECK.same("never", x.dry(0, 0, 0) * 10 + x.dry(0, 0, 1), -11);
        for (int ahead = 1; ahead <= 12; ahead++) {
            int hourOfDay = (x.count(0) + ahead - 1) % 12;
            x.setShade(hourOfDay, 1);
            int hours = (lacking - 1) * 12 + ahead;
            int grade = Math.min(3, 2 + (1 + hours - lacking) / 3);
            CHECK.same(lacking + " are lacking, " + ahead + " hours ahead", x.dry(0, 0, 0), hours <= 300 ? hours : -1);
            CHECK.same("its grade", x.dry(0, 0, 1), hours <= 300 ? grade : -1);
            x.setShade(hourOfDay, 0);
        }
    }

    /** "if there is no such peeler, or what is not 0 to 5" */
    private static void peelers() {
        none("peeler", (x, n) -> x.peeler(n, 0));
        outside(OF_ONE, "peeler", 0, 0, (x, n) -> x.peeler(n, 0));
        outside(OF_ALL, "peeler", 0, 7, (x, n) -> x.peeler(n, 5));
        outside(OF_ONE, "what of a peeler", 0, 5, (x, n) -> x.peeler(0, n));
        outside(OF_ALL, "what of a peeler", 0, 5, (x, n) -> x.peeler(7, n));
        OF_ALL.outOfBounds("peeler(8, 6)", x -> x.peeler(8, 6));
    }

    /** "if there is no such boat, or what is not 0 to 6" */
    private static void boats() {
        none("boat", (x, n) -> x.boat(n, 0));
        outside(OF_ONE, "boat", 0, 0, (x, n) -> x.boat(n, 0));
        outside(OF_ALL, "boat", 0, 3, (x, n) -> x.boat(n, 6));
        outside(OF_ONE, "what of a boat", 0, 6, (x, n) -> x.boat(0, n));
        outside(OF_ALL, "what of a boat", 0, 6, (x, n) -> x.boat(3, n));
        OF_ALL.outOfBounds("boat(4, 7)", x -> x.boat(4, 7));
    }

    /** "if grade is not 0 to 3, or what is not 0 to 4" */
    private static void grades() {
        for (Refusals refusals : new Refusals[] {OF_NONE, OF_ALL}) {
            outside(refusals, "grade", 0, 3, (x, n) -> x.grade(n, 0));
            outside(refusals, "what of a grade", 0, 4, (x, n) -> x.grade(3, n));
            refusals.outOfBounds("grade(4, 5)", x -> x.grade(4, 5));
        }
    }

    /** "if hour is not 0 to 11" */
    private static void shades() {
        outside(OF_NONE, "shade", 0, 11, (x, n) -> x.shade(n));
        outside(OF_ALL, "shade", 0, 11, (x, n) -> x.shade(n));
    }

    /** "if grade is not 0 to 3", "if many is not 1 to 40", the first ahead of the other. */
    private static void worths() {
        for (Refusals refusals : new Refusals[] {OF_NONE, OF_ALL}) {
            outside(refusals, "worth of a grade", 0, 3, (x, n) -> x.worth(n, 1));
            refused(refusals, "worth of a grade and none", 0, 3, (x, n) -> x.worth(n, 0));
            refused(refusals, "worth of a grade and 41", 0, 3, (x, n) -> x.worth(n, 41));
            wrong(refusals, "worth of many of first", 1, 40, (x, n) -> x.worth(0, n));
            wrong(refusals, "worth of many of fourth", 1, 40, (x, n) -> x.worth(3, n));
        }
        QuillBoats x = Check.told("price first 50;price fourth 0;");
        CHECK.same("worth of one", x.worth(0, 1), 50);
        CHECK.same("worth of 40", x.worth(0, 40), 4 * (50 + 49 + 48 + 47 + 46 + 45 + 44 + 43 + 42 + 41));
        CHECK.same("worth of nothing", x.worth(3, 40), 0);
    }

    /** "if there is no such peeler", "if the edge is 20, or there are fewer than 2 coins" */
    private static void whetting() {
        none("whet", (x, n) -> x.whet(n));
        outside(OF_ONE, "whet", 0, 0, (x, n) -> x.whet(n));
        outside(OF_ALL, "whet", 0, 7, (x, n) -> x.whet(n));
        Refusals keen = new Refusals(CHECK, () -> {
            QuillBoats x = all();
            x.whet(2);
            return x;
        });
        keen.illegalState("a keen knife", x -> x.whet(2));
        keen.outOfBounds("no peeler", x -> x.whet(8));
        keen.taken("another knife", x -> x.whet(3));
        QuillBoats x = Check.told("garden g sticks 9 grows 9 thick 9;rack r holds 60;peeler p of g to r skill 1;");
        CHECK.illegalState("an edge of 20", () -> x.whet(0));
        x.pass(1);
        CHECK.same("an edge of 19", x.whet(0), 48);
        CHECK.illegalState("an edge of 20 again", () -> x.whet(0));
        CHECK.same("by hand no order is carried out", x.count(12), 0);
        CHECK.row("peeler", what -> x.peeler(0, what), 0, 0, 1, 20, 1, 1);
    }

    private static QuillBoats withCoins(int coins) {
        QuillBoats x = Check.told("garden g sticks 99 grows 20 thick 1;rack r holds 60;peeler p of g to r skill 1;"
                + "peeler q of g to r skill 1;");
        if (coins % 2 == 1) {
            x.grant(1);
        }
        for (int i = 0; i < 25 - coins / 2; i++) {
            x.pass(1);
            x.whet(0);
        }
        return x;
    }

    private static void whettingWithFewCoins() {
        for (int coins = 0; coins <= 5; coins++) {
            int many = coins;
            Refusals refusals = new Refusals(CHECK, () -> withCoins(many));
            refusals.illegalState("a keen knife with " + coins + " coins", x -> x.whet(0));
            refusals.outOfBounds("no knife with " + coins + " coins", x -> x.whet(2));
            if (coins < 2) {
                refusals.illegalState("whet(1) with " + coins + " coins", x -> x.whet(1));
            } else {
                QuillBoats x = withCoins(coins);
                CHECK.same("whet(1) with " + coins + " coins", x.whet(1), coins - 2);
                CHECK.same("its edge", x.peeler(1, 3), 20);
                CHECK.same("coins that are left", x.count(1), coins - 2);
            }
        }
    }

    /** "if there is no such boat, or grade is not 0 to 3", "if many is not 1 to what the boat holds" */
    private static void loading() {
        none("load", (x, n) -> x.load(n, 0, 1));
        outside(OF_ONE, "load of a boat", 0, 0, (x, n) -> x.load(n, 0, 1));
        refused(OF_ONE, "load of a boat and none", 0, 0, (x, n) -> x.load(n, 0, 0));
        refused(OF_ONE, "load of a grade", 0, 3, (x, n) -> x.load(0, n, 6));
        refused(OF_ONE, "load of a grade and none", 0, 3, (x, n) -> x.load(0, n, 0));
        wrong(OF_ONE, "load of many", 1, 6, (x, n) -> x.load(0, 0, n));
        for (int grade = 1; grade < 4; grade++) {
            int g = grade;
            OF_ONE.illegalState("load of a grade that the store has not", x -> x.load(0, g, 1));
            OF_ONE.illegalState("load of a grade that the store has not", x -> x.load(0, g, 6));
            OF_ONE.illegalArgument("none of a grade that the store has not", x -> x.load(0, g, 0));
            OF_ONE.illegalArgument("too many of a grade that the store has not", x -> x.load(0, g, 7));
        }
        for (int many = 1; many <= 6; many++) {
            QuillBoats x = one();
            CHECK.same("load of " + many, x.load(0, 0, many), many);
            CHECK.row("boat", what -> x.boat(0, what), 6, 2, 0, 1, x.boat(0, 4), 0, 0);
            CHECK.same("in boats", x.count(9), many);
            CHECK.same("in the store", x.count(7), 9 - many);
            CHECK.same("carried out by hand: none", x.count(12), 0);
        }
        QuillBoats x = Check.told("garden g sticks 3 grows 0 thick 1;rack r holds 60;peeler p of g to r skill 3;"
                + "boat b holds 6 speed 2;boat c holds 2 speed 2;boat d holds 6 speed 2;shade 0 is 3;");
        x.pass(1);
        CHECK.same("as many as the boat holds", x.load(1, 0, 2), 2);
        CHECK.same("no more than the store has", x.load(0, 0, 6), 1);
        CHECK.illegalState("the store is empty", () -> x.load(2, 0, 6));
    }

    /** Boats that hold 1, 2, 3 and 40: the first two are afloat. */
    private static void loadingOfAllBoats() {
        QuillBoats x = all();
        CHECK.row("way of boat", boat -> x.boat(boat, 3), 1, 1, 0, 0);
        CHECK.isTrue("enough in the store: " + x.grade(0, 0), x.grade(0, 0) > 40);
        refused(OF_ALL, "load of a boat", 0, 3, (y, n) -> y.load(n, 0, 1));
        taken(OF_ALL, "load of a boat", 2, 3, (y, n) -> y.load(n, 0, 1));
        wrong(OF_ALL, "load of many of the third boat", 1, 3, (y, n) -> y.load(2, 0, n));
        wrong(OF_ALL, "load of many of the fourth boat", 1, 40, (y, n) -> y.load(3, 0, n));
        for (int boat = 0; boat < 2; boat++) {
            int b = boat;
            OF_ALL.illegalState("a boat that is afloat", y -> y.load(b, 0, 1));
            OF_ALL.illegalState("a boat that is afloat, with all that it holds", y -> y.load(b, 1, b + 1));
            OF_ALL.illegalArgument("a boat that is afloat, with none", y -> y.load(b, 0, 0));
            OF_ALL.illegalArgument("a boat that is afloat, with too many", y -> y.load(b, 0, b + 2));
            OF_ALL.outOfBounds("a boat that is afloat, with no grade", y -> y.load(b, 4, 1));
        }
    }

    /** "If several exceptions apply, the one that is named first is thrown." */
    private static void loadingIsRefusedInThisOrder() {
        for (int boat : new int[] {-1, 4, LOW, HIGH}) {
            for (int grade : new int[] {-1, 0, 3, 4}) {
                for (int many : new int[] {LOW, 0, 1, 41, HIGH}) {
                    OF_ALL.outOfBounds("load of no boat", x -> x.load(boat, grade, many));
                    OF_ALL.outOfBounds("load of no grade", x -> x.load(3, boat, many));
                    OF_ALL.outOfBounds("load of no grade by a boat that is afloat", x -> x.load(0, boat, many));
                }
            }
        }
        OF_ALL.illegalArgument("too many ahead of afloat", x -> x.load(0, 3, 2));
        OF_ALL.illegalState("afloat, and none of this grade", x -> x.load(0, 3, 1));
    }

    /** "if hour is not 0 to 11", "if shade is not 0 to 3"; "Returns the one before." */
    private static void settingShades() {
        for (Refusals refusals : new Refusals[] {OF_NONE, OF_ALL}) {
            outside(refusals, "setShade of an hour", 0, 11, (x, n) -> x.setShade(n, 2));
            refused(refusals, "setShade of an hour to 4", 0, 11, (x, n) -> x.setShade(n, 4));
            wrong(refusals, "setShade of hour 0", 0, 3, (x, n) -> x.setShade(0, n));
            wrong(refusals, "setShade of hour 11", 0, 3, (x, n) -> x.setShade(11, n));
            refused(refusals, "setShade of an hour to -1", 0, 11, (x, n) -> x.setShade(n, -1));
        }
        QuillBoats x = new QuillBoats();
        for (int hour = 0; hour < 12; hour++) {
            int before = 1;
            for (int shade : new int[] {0, 3, 0, 1, 2, 2, 3}) {
                CHECK.same("setShade(" + hour + ", " + shade + ")", x.setShade(hour, shade), before);
                CHECK.same("shade(" + hour + ")", x.shade(hour), shade);
                before = shade;
            }
        }
        CHECK.row("shade", x::shade, 3, 3, 3, 3, 3, 3, 3, 3, 3, 3, 3, 3);
    }

    /** "if current is not 0 to 5"; "Returns the one before." */
    private static void settingTheCurrent() {
        wrong(OF_NONE, "setCurrent", 0, 5, (x, n) -> x.setCurrent(n));
        wrong(OF_ALL, "setCurrent", 0, 5, (x, n) -> x.setCurrent(n));
        QuillBoats x = new QuillBoats();
        int before = 1;
        for (int current : new int[] {0, 5, 0, 1, 2, 2, 3, 4}) {
            CHECK.same("setCurrent(" + current + ")", x.setCurrent(current), before);
            CHECK.same("count(14)", x.count(14), current);
            before = current;
        }
    }

    /** "if coins is not 1 to 9999"; "what is then beyond 99999 is lost"; "Returns the coins then." */
    private static void granting() {
        for (Refusals refusals : new Refusals[] {OF_NONE, OF_ALL}) {
            for (int n : new int[] {LOW, -9999, -1, 0, 10000, 10001, 65537, HIGH}) {
                refusals.illegalArgument("grant(" + n + ")", x -> x.grant(n));
            }
            for (int n : new int[] {1, 2, 9998, 9999}) {
                refusals.taken("grant(" + n + ")", x -> x.grant(n));
            }
        }
        CHECK.same("grant(1)", new QuillBoats().grant(1), 51);
        CHECK.same("grant(9999)", new QuillBoats().grant(9999), 10049);
        for (int lacking = 0; lacking <= 3; lacking++) {
            for (int more : new int[] {1, 2, 3, 4, 9999}) {
                QuillBoats x = new QuillBoats();
                while (x.count(1) < 99999 - lacking) {
                    x.grant(Math.min(9999, 99999 - lacking - x.count(1)));
                }
                CHECK.same("coins", x.count(1), 99999 - lacking);
                CHECK.same("grant(" + more + ")", x.grant(more), Math.min(99999, 99999 - lacking + more));
                CHECK.same("coins", x.count(1), Math.min(99999, 99999 - lacking + more));
            }
        }
        Refusals rich = new Refusals(CHECK, () -> {
            QuillBoats x = all();
            for (int i = 0; i < 12; i++) {
                x.grant(9999);
            }
            return x;
        });
        rich.illegalArgument("grant(0) with all coins", x -> x.grant(0));
        rich.illegalArgument("grant(10000) with all coins", x -> x.grant(10000));
        rich.taken("grant(1) with all coins", x -> x.grant(1));
    }

    /** "if hours is not 1 to 120" */
    private static void passing() {
        for (Refusals refusals : new Refusals[] {OF_NONE, OF_ONE, OF_ALL}) {
            wrong(refusals, "pass", 1, 120, (x, n) -> x.pass(n));
        }
        for (int hours = 1; hours <= 120; hours++) {
            QuillBoats x = all();
            QuillBoats twin = all();
            int peeled = 0;
            for (int i = 0; i < hours; i++) {
                peeled += twin.pass(1);
            }
            CHECK.same("pass(" + hours + ")", x.pass(hours), peeled);
            CHECK.same("the hour", x.count(0), 17 + hours);
            CHECK.same("all of it", x.digest(), twin.digest());
        }
    }

    /** "if there is no such boat"; "0 if it does now"; "at most 150; -1 if not by then" */
    private static void until() {
        none("until", (x, n) -> x.until(n));
        outside(OF_ONE, "until", 0, 0, (x, n) -> x.until(n));
        outside(OF_ALL, "until", 0, 3, (x, n) -> x.until(n));
        QuillBoats x = Check.told("garden g sticks 9 grows 0 thick 1;rack r holds 60;peeler p of g to r skill 9;"
                + "boat b holds 1 speed 1;river 60 current 0;shade 0 is 3;load b with 1 of first when hour=1;");
        CHECK.same("it lies there", x.until(0), 0);
        x.pass(1);
        CHECK.same("it lies there, be it loaded by an order then", x.until(0), 0);
        for (int left = 119; left >= 0; left--) {
            x.pass(1);
            CHECK.same("the longest way", x.until(0), left);
        }
        for (int current = 0; current <= 5; current++) {
            QuillBoats y = one();
            y.load(0, 0, 6);
            y.setCurrent(current);
            int up = (7 + Math.max(1, 2 - current) - 1) / Math.max(1, 2 - current);
            int back = (7 + 2 + current - 1) / (2 + current);
            CHECK.same("by the current as it is now", y.until(0), up + back);
            y.pass(up + back - 1);
            CHECK.same("the hour ahead", y.until(0), 1);
            CHECK.same("it is afloat", y.boat(0, 3), 2);
            y.pass(1);
            CHECK.same("at the landing", y.until(0), 0);
            CHECK.same("it lies there", y.boat(0, 3), 0);
        }
    }

    /** "if hours is not 1 to 120", then "if what is none of these": 1, or 7 to 12 */
    private static void foreseeing() {
        for (Refusals refusals : new Refusals[] {OF_NONE, OF_ONE, OF_ALL}) {
            for (int what : new int[] {1, 7, 8, 9, 10, 11, 12}) {
                for (int hours : new int[] {LOW, -1, 0, 121, 122, HIGH}) {
                    refusals.illegalArgument("foresee(" + hours + ", " + what + ")", x -> x.foresee(hours, what));
                }
                refusals.taken("foresee(1, " + what + ")", x -> x.foresee(1, what));
                refusals.taken("foresee(120, " + what + ")", x -> x.foresee(120, what));
            }
            for (int what : new int[] {LOW, -1, 0, 2, 3, 4, 5, 6, 13, 14, 15, 16, HIGH}) {
                refusals.outOfBounds("foresee(1, " + what + ")", x -> x.foresee(1, what));
                refusals.outOfBounds("foresee(120, " + what + ")", x -> x.foresee(120, what));
                refusals.illegalArgument("foresee(0, " + what + ")", x -> x.foresee(0, what));
                refusals.illegalArgument("foresee(121, " + what + ")", x -> x.foresee(121, what));
            }
        }
        for (int hours = 1; hours <= 120; hours++) {
            QuillBoats x = all();
            QuillBoats twin = all();
            twin.pass(hours);
            for (int what : new int[] {1, 7, 8, 9, 10, 11, 12}) {
                CHECK.same("foresee(" + hours + ", " + what + ")", x.foresee(hours, what), twin.count(what));
            }
        }
    }

    /** Bundles in the sun come into the store by their grades, then into boats, which bring different coins. */
    private static void foreseeingQuillsOfAllGrades() {
        String list = "garden g sticks 99 grows 9 thick 1;garden h sticks 40 grows 9 thick 4;rack r holds 60;"
                + "peeler p of g to r skill 5;peeler q of h to r skill 2;shade 2 is 0;shade 3 is 0;shade 4 is 0;"
                + "shade 7 is 0;shade 8 is 0;shade 9 is 0;river 3 current 1;price second 20;price third 30;"
                + "price fourth 50;boat a holds 9 speed 3;boat b holds 9 speed 3;boat c holds 9 speed 3;"
                + "boat d holds 9 speed 3;load a with 9 of first;load b with 9 of second;load c with 9 of third;"
                + "load d with 9 of fourth;";
        for (int begun = 1; begun <= 30; begun++) {
            for (int hours : new int[] {1, 2, 3, 5, 8, 13, 21}) {
                QuillBoats x = Check.told(list);
                x.pass(begun);
                QuillBoats twin = Check.told(list);
                twin.pass(begun);
                twin.pass(hours);
                CHECK.same("foresee(" + hours + ", 1) behind " + begun, x.foresee(hours, 1), twin.count(1));
                CHECK.same("foresee(" + hours + ", 7) behind " + begun, x.foresee(hours, 7), twin.count(7));
            }
        }
        QuillBoats x = Check.told(list);
        x.pass(40);
        CHECK.isTrue("of all grades some are sold", x.grade(0, 4) > 0 && x.grade(1, 4) > 0 && x.grade(2, 4) > 0
                && x.grade(3, 4) > 0);
    }

    /** "if there is no such boat", then "if hours is not 1 to 100" */
    private static void advising() {
        none("advise", (x, n) -> x.advise(n, 1));
        none("advise for no hours", (x, n) -> x.advise(n, 0));
        outside(OF_ONE, "advise", 0, 0, (x, n) -> x.advise(n, 100));
        outside(OF_ALL, "advise", 0, 3, (x, n) -> x.advise(n, 1));
        wrong(OF_ONE, "advise for hours", 1, 100, (x, n) -> x.advise(0, n));
        wrong(OF_ALL, "advise for hours", 1, 100, (x, n) -> x.advise(3, n));
        for (int hours : new int[] {LOW, -1, 0, 101, HIGH}) {
            OF_ALL.outOfBounds("advise(4, " + hours + ")", x -> x.advise(4, hours));
            OF_ALL.outOfBounds("advise(-1, " + hours + ")", x -> x.advise(-1, hours));
        }
        adviceByHours();
        adviceByWhatTheBoatHolds();
    }

    /** The boat is at the market behind 4 hours: in fewer no grade brings more; with nothing to load none does. */
    private static void adviceByHours() {
        for (int hours = 1; hours <= 100; hours++) {
            CHECK.same("advise(0, " + hours + ")", one().advise(0, hours), hours >= 4 ? 0 : -1);
        }
        QuillBoats empty = Check.told("boat b holds 6 speed 2;");
        CHECK.same("none to load", empty.advise(0, 100), -1);
        QuillBoats afloat = one();
        afloat.load(0, 0, 1);
        CHECK.same("afloat", afloat.advise(0, 100), -1);
        String two = "garden g sticks 9 grows 0 thick 1;garden h sticks 9 grows 0 thick 4;rack r holds 60;"
                + "peeler p of g to r skill 9;peeler q of h to r skill 9;boat b holds 1 speed 9;river 1 current 0;";
        int[][] prices = {{5, 4}, {5, 5}, {4, 5}, {0, 1}, {1, 0}, {0, 0}};
        int[] due = {0, 0, 1, 1, 0, -1};
        for (int i = 0; i < due.length; i++) {
            QuillBoats x = Check.told(two + "price first " + prices[i][0] + ";price second " + prices[i][1] + ";");
            x.pass(12);
            CHECK.same("prices " + prices[i][0] + " and " + prices[i][1], x.advise(0, 1), due[i]);
        }
        adviceAgainstOrders(two + "whet p when hour=0;whet q when hour=0;");
    }

    /** "with as many quills as it holds at most": one of the first in the store, nine of the second. */
    private static void adviceByWhatTheBoatHolds() {
        for (int holds = 1; holds <= 40; holds++) {
            QuillBoats x = Check.told("garden g sticks 1 grows 0 thick 1;garden h sticks 9 grows 0 thick 4;rack r holds 60;"
                    + "peeler p of g to r skill 9;peeler q of h to r skill 9;boat b holds " + holds + " speed 9;"
                    + "boat c holds 40 speed 9;river 1 current 0;price first 20;price second 5;");
            x.pass(12);
            int second = x.worth(1, Math.min(holds, 9));
            CHECK.same("a boat that holds " + holds, x.advise(0, 1), second > 20 ? 1 : 0);
            CHECK.same("another boat", x.advise(1, 1), 1);
        }
    }

    /** "by none there are more coins than without": an order may load the boat too, and others pay 4 coins. */
    private static void adviceAgainstOrders(String list) {
        String[] orders = {"price first 1;price second 0;",
            "price first 5;price second 4;load b with 1 of second when hour=0;",
            "price first 5;price second 4;load b with 1 of first when hour=0;",
            "price first 4;price second 5;load b with 1 of first when hour=0;"};
        int[] due = {0, 0, -1, 1};
        for (int i = 0; i < orders.length; i++) {
            QuillBoats x = Check.told(list + orders[i]);
            x.pass(12);
            CHECK.same("with " + orders[i], x.advise(0, 1), due[i]);
        }
    }

    /** "if hours is not 1 to 60" */
    private static void best() {
        for (Refusals refusals : new Refusals[] {OF_NONE, OF_ONE, OF_ALL}) {
            wrong(refusals, "best", 1, 60, (x, n) -> x.best(n));
        }
        CHECK.same("no peelers", new QuillBoats().best(60), -1);
        String two = "garden g sticks 99 grows 20 thick 1;rack r holds 60;peeler p of g to r skill ";
        for (int skill = 1; skill <= 4; skill++) {
            QuillBoats x = Check.told(two + skill + ";peeler q of g to r skill 2;");
            CHECK.same("none can be whetted", x.best(60), -1);
            x.pass(11);
            CHECK.same("of several the smallest number, skill " + skill, x.best(1), 0);
            QuillBoats y = Check.told(two + "2;peeler q of g to r skill " + skill + ";");
            y.pass(11);
            CHECK.same("the most quills, skill " + skill, y.best(1), skill > 2 ? 1 : 0);
        }
        for (int coins = 0; coins <= 3; coins++) {
            QuillBoats x = withCoins(coins);
            CHECK.same("best(60) with " + coins + " coins", x.best(60), coins < 2 ? -1 : 1);
        }
        QuillBoats x = Check.told(two + "2;peeler q of g to r skill 1;whet q when hour=5;");
        x.pass(1);
        for (int hours = 1; hours <= 60; hours++) {
            CHECK.same("by none there are more than without, in " + hours, x.best(hours), hours <= 10 ? -1 : 0);
        }
        QuillBoats idle = Check.told("garden g sticks 1 grows 0 thick 1;rack r holds 60;peeler p of g to r skill 1;");
        idle.pass(1);
        CHECK.same("there are no more sticks", idle.best(60), -1);
    }

    /** "Returns the mean edge of all knives; 0 without any." */
    private static void means() {
        meanIs(new QuillBoats(), 0.0);
        meanIs(Check.told("garden g sticks 9 grows 9 thick 1;rack r holds 60;boat b holds 1 speed 1;"), 0.0);
        for (int many = 1; many <= 8; many++) {
            QuillBoats x = Check.told("garden g sticks 99 grows 20 thick 1;rack r holds 60;"
                    + lines("peeler p", many, " of g to r skill 1;"));
            meanIs(x, 20.0);
            x.pass(1);
            meanIs(x, 19.0);
            for (int i = 0; i < many; i++) {
                x.whet(i);
                meanIs(x, (19.0 * many + i + 1) / many);
            }
        }
        QuillBoats blunt = Check.told("garden g sticks 99 grows 20 thick 1;rack r holds 60;peeler p of g to r skill 2;");
        blunt.pass(20);
        meanIs(blunt, 0.0);
        meanIs(one(), 18.0);
    }

    private static void meanIs(QuillBoats x, double due) {
        CHECK.same("mean()", Double.doubleToLongBits(x.mean()), Double.doubleToLongBits(due));
    }

    /** "for each of the following numbers x, d becomes d * 31 + x": by what the other calls tell. */
    private static void digests() {
        QuillBoats[] several = {new QuillBoats(), one(), all(), Check.told("boat b holds 1 speed 1;"),
            Check.told("rack r holds 1;rack s holds 60;"), Check.told("garden g sticks 0 grows 0 thick 1;")};
        for (QuillBoats x : several) {
            CHECK.same("digest()", x.digest(), digestOf(x));
            x.pass(5);
            x.setShade(11, 0);
            CHECK.same("digest() later", x.digest(), digestOf(x));
        }
        QuillBoats x = new QuillBoats();
        for (int i = 0; i < 100; i++) {
            long before = x.digest();
            x.feed(i, i, i, i, i);
            CHECK.isTrue("the bytes of the tape are in it", x.digest() != before);
            CHECK.same("digest() of a tape", x.digest(), digestOf(x));
        }
    }

    private static long digestOf(QuillBoats x) {
        long d = 1571;
        for (int what = 0; what <= 15; what++) {
            d = d * 31 + x.count(what);
        }
        for (int hour = 0; hour <= 11; hour++) {
            d = d * 31 + x.shade(hour);
        }
        for (int i = 0; i < x.count(2); i++) {
            for (int what = 0; what <= 3; what++) {
                d = d * 31 + x.garden(i, what);
            }
        }
        for (int i = 0; i < x.count(3); i++) {
            for (int what = 0; what <= 3; what++) {
                d = d * 31 + x.rack(i, what);
            }
            for (int place = 0; place < x.rack(i, 2); place++) {
                for (int what = 0; what <= 4; what++) {
                    d = d * 31 + x.bundle(i, place, what);
                }
            }
        }
        for (int i = 0; i < x.count(4); i++) {
            for (int what = 0; what <= 5; what++) {
                d = d * 31 + x.peeler(i, what);
            }
        }
        for (int i = 0; i < x.count(5); i++) {
            for (int what = 0; what <= 6; what++) {
                d = d * 31 + x.boat(i, what);
            }
        }
        for (int i = 0; i < 4; i++) {
            for (int what = 0; what <= 4; what++) {
                d = d * 31 + x.grade(i, what);
            }
        }
        return d;
    }

    /** "(nothing is changed)": neither what is told, nor the tape, nor what comes. */
    private static void tellingChangesNothing() {
        QuillBoats x = all();
        QuillBoats twin = all();
        for (int i = 0; i < 3; i++) {
            CHECK.same("told again", Whole.of(x), Whole.of(x));
            x.foresee(77, 12);
            x.advise(3, 100);
            x.best(60);
            x.until(0);
        }
        CHECK.same("the next hours", x.pass(20), twin.pass(20));
        CHECK.same("the tape", x.teach(), twin.teach());
        CHECK.same("all of it", Whole.of(x), Whole.of(twin));
    }

    /** "An object is used for at most 512 calls after it has been made": each of these has its answer. */
    private static void fiveHundredAndTwelveCalls() {
        QuillBoats x = new QuillBoats();
        for (int call = 1; call <= 512; call++) {
            CHECK.same("call " + call, x.pass(120), 0);
        }
        QuillBoats hours = new QuillBoats();
        for (int call = 1; call < 512; call++) {
            hours.pass(120);
        }
        CHECK.same("the hour at the 512th call", hours.count(0), 511 * 120);
        String list = "garden g sticks 99 grows 20 thick 1;rack r holds 60;peeler p of g to r skill 9;"
                + "boat b holds 40 speed 9;river 3 current 1;price first 50;load b with 40 of first;"
                + "whet p when edge p<10;";
        QuillBoats busy = Check.told(list);
        Model model = new Model();
        Feeder.tell(model, list);
        int calls = list.length() / 20 + 3;
        for (; calls < 511; calls++) {
            CHECK.same("pass(120)", busy.pass(120), model.pass(120));
        }
        CHECK.same("digest() at the 512th call", busy.digest(), model.digest());
    }
}

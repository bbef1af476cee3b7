import java.util.ArrayList;
import java.util.List;
import java.util.function.LongSupplier;

/** Runs of calls by dice: each answer, and the digest behind each call, is compared with the model's. */
public final class RunsTest {
    private static final int RUNS = 800;
    private static final int CALLS = 120;

    private final Check check;
    private final Dice dice;
    private final QuillBoats boats = new QuillBoats();
    private final Model model = new Model();
    private final int run;
    private int[] answered;

    private RunsTest(Check check, int run, int[] answered) {
        this.check = check;
        this.run = run;
        this.dice = new Dice(run + 100000);
        this.answered = answered;
    }

    public static void main(String[] args) {
        Check check = new Check("RunsTest");
        int[] answered = new int[27];
        for (int run = 0; run < RUNS; run++) {
            new RunsTest(check, run, answered).go();
        }
        for (int call = 0; call < 24; call++) {
            check.isTrue("enough answers other than -1 and 0 of call " + call + ": " + answered[call],
                    answered[call] > 20);
        }
        check.end();
    }

    private void go() {
        tell();
        for (int i = 0; i < CALLS && check.wrong() < 50; i++) {
            if (dice.oneIn(60)) {
                tell();
            }
            call(dice.oneIn(4) ? dice.of(15, 19, 19, 20) : dice.below(24));
            same("call " + i + " digest()", -1, boats::digest, model::digest);
            same("call " + i + " mean()", -1, () -> Double.doubleToLongBits(boats.mean()),
                    () -> Double.doubleToLongBits(model.mean()));
        }
    }

    private void tell() {
        Lists lists = new Lists(dice);
        List<String> row = new ArrayList<>(lists.lively());
        if (dice.oneIn(5)) {
            lists.spoil(row);
        }
        String text = lists.text(row);
        if (text.length() <= 2000 && boats.count(15) == 0) {
            same("teach of " + text, -1, () -> Check.tell(boats, text), () -> Feeder.tell(model, text));
        }
    }

    private void same(String call, int number, LongSupplier got, LongSupplier due) {
        String wanted = Model.outcome(due);
        check.same("run " + run + ", " + call, Check.outcome(got), wanted);
        if (number >= 0 && Character.isDigit(wanted.charAt(0)) && !wanted.equals("0")) {
            answered[number]++;
        }
    }

    /** Mostly from 0 to the bound, at times at its edges and beyond. */
    private int near(int most) {
        return dice.oneIn(25) ? dice.of(-1, most + 1, most + 2, Integer.MIN_VALUE, Integer.MAX_VALUE)
                : dice.from(0, most);
    }

    private void call(int number) {
        int a = near(3);
        switch (number) {
            case 0 -> feed();
            case 1 -> trim();
            case 2 -> one("teach", number, 0, x -> boats.teach(), x -> model.teach());
            case 3 -> one("errorAt", number, 0, x -> boats.errorAt(), x -> model.errorAt());
            case 4 -> one("count", number, near(15), boats::count, model::count);
            case 5 -> two("garden", number, a, near(3), boats::garden, model::garden);
            case 6 -> two("rack", number, a, near(3), boats::rack, model::rack);
            case 7 -> bundle(number);
            case 8 -> dry(number);
            case 9 -> two("peeler", number, near(7), near(5), boats::peeler, model::peeler);
            case 10 -> two("boat", number, a, near(6), boats::boat, model::boat);
            case 11 -> two("grade", number, a, near(4), boats::grade, model::grade);
            case 12 -> one("shade", number, near(11), boats::shade, model::shade);
            case 13 -> two("worth", number, a, near(40), boats::worth, model::worth);
            case 14 -> one("whet", number, near(7), boats::whet, model::whet);
            case 15 -> load(number);
            case 16 -> two("setShade", number, near(11), near(3), boats::setShade, model::setShade);
            case 17 -> one("setCurrent", number, near(5), boats::setCurrent, model::setCurrent);
            case 18 -> one("grant", number, dice.oneIn(2) ? near(30) : near(9999), boats::grant, model::grant);
            case 19 -> one("pass", number, dice.oneIn(4) ? near(120) : near(7), boats::pass, model::pass);
            case 20 -> one("until", number, near(2), boats::until, model::until);
            case 21 -> two("foresee", number, near(120), dice.oneIn(3) ? near(15) : dice.of(1, 7, 8, 9, 10, 11, 12),
                    boats::foresee, model::foresee);
            case 22 -> two("advise", number, a, near(100), boats::advise, model::advise);
            default -> one("best", number, near(60), boats::best, model::best);
        }
    }

    private interface One {
        int of(int a);
    }

    private interface Two {
        int of(int a, int b);
    }

    private void one(String name, int number, int a, One got, One due) {
        same(name + "(" + a + ")", number, () -> got.of(a), () -> due.of(a));
    }

    private void two(String name, int number, int a, int b, Two got, Two due) {
        same(name + "(" + a + ", " + b + ")", number, () -> got.of(a, b), () -> due.of(a, b));
    }

    private void feed() {
        int a = dice.of(0x3b3b3b3b, 0x20202020, -1, 0x72697665, 0x2031203b);
        int b = dice.of(0x20202020, 7, Integer.MIN_VALUE);
        int times = dice.oneIn(20) ? 101 : 1;
        for (int i = 0; i < times; i++) {
            same("feed", 0, () -> boats.feed(a, b, a, b, 0x0a0a0a0a), () -> model.feed(a, b, a, b, 0x0a0a0a0a));
        }
    }

    private void trim() {
        int n = near(boats.count(15));
        one("trim", 1, n, boats::trim, model::trim);
        if (dice.oneIn(2)) {
            one("trim", 1, 0, boats::trim, model::trim);
        }
    }

    private void bundle(int number) {
        int rack = near(1);
        int place = dice.oneIn(3) ? near(6) : 0;
        int what = near(4);
        same("bundle(" + rack + ", " + place + ", " + what + ")", number, () -> boats.bundle(rack, place, what),
                () -> model.bundle(rack, place, what));
    }

    private void dry(int number) {
        int rack = near(1);
        int place = dice.oneIn(3) ? near(6) : 0;
        int what = near(1);
        same("dry(" + rack + ", " + place + ", " + what + ")", number, () -> boats.dry(rack, place, what),
                () -> model.dry(rack, place, what));
    }

    private void load(int number) {
        int boat = near(1);
        int grade = dice.oneIn(2) ? 0 : near(3);
        int many = dice.oneIn(2) ? near(3) : near(40);
        same("load(" + boat + ", " + grade + ", " + many + ")", number, () -> boats.load(boat, grade, many),
                () -> model.load(boat, grade, many));
    }
}

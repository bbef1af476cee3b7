import java.util.ArrayList;
import java.util.List;

/** Lists by dice, right and wrong ones: what teach() and errorAt() answer is compared with the model's. */
public final class ListsTest {
    private static final int RUNS = 6000;

    public static void main(String[] args) {
        Check check = new Check("ListsTest");
        int[] errors = new int[6];
        for (int run = 0; run < RUNS; run++) {
            Dice dice = new Dice(run);
            Lists lists = new Lists(dice);
            List<String> row = new ArrayList<>(lists.lively());
            if (dice.oneIn(5)) {
                lists.crowd(row);
            }
            if (dice.oneIn(3)) {
                lists.mistake(row);
            } else if (!dice.oneIn(4)) {
                lists.spoil(row);
            }
            if (dice.oneIn(20)) {
                row.addAll(row);
            }
            String text = lists.text(row);
            if (text.length() <= 2000) {
                errors[ask(check, run, text)]++;
            }
        }
        for (int error = 0; error < errors.length; error++) {
            check.isTrue("enough lists with error " + error + ": " + errors[error], errors[error] > 20);
        }
        check.end();
    }

    private static int ask(Check check, int run, String text) {
        QuillBoats boats = new QuillBoats();
        Model model = new Model();
        int got = Check.tell(boats, text);
        int due = Feeder.tell(model, text);
        check.same("run " + run + ", teach() of " + text, got, due);
        check.same("run " + run + ", errorAt() of " + text, boats.errorAt(), model.errorAt());
        check.same("run " + run + ", digest() of " + text, boats.digest(), model.digest());
        return due;
    }
}

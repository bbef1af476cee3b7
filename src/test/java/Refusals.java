import java.util.function.Supplier;
import java.util.function.ToLongFunction;

/**
 * Calls that are refused: each throws what is due, and then the object tells, goes on and is taught like a twin
 * that was never asked. Calls that are taken: they throw nothing.
 */
final class Refusals {
    private final Check check;
    private final Supplier<QuillBoats> maker;

    /** The maker makes objects that are alike, best with something on the tape. */
    Refusals(Check check, Supplier<QuillBoats> maker) {
        this.check = check;
        this.maker = maker;
    }

    void outOfBounds(String what, ToLongFunction<QuillBoats> call) {
        refused(what, "IndexOutOfBoundsException", call);
    }

    void illegalArgument(String what, ToLongFunction<QuillBoats> call) {
        refused(what, "IllegalArgumentException", call);
    }

    void illegalState(String what, ToLongFunction<QuillBoats> call) {
        refused(what, "IllegalStateException", call);
    }

    /** The call is taken, whatever it answers. */
    void taken(String what, ToLongFunction<QuillBoats> call) {
        QuillBoats x = maker.get();
        check.isTrue(what + " is taken", !Check.outcome(() -> call.applyAsLong(x)).endsWith("Exception"));
    }

    private void refused(String what, String due, ToLongFunction<QuillBoats> call) {
        QuillBoats asked = maker.get();
        QuillBoats twin = maker.get();
        check.same(what, Check.outcome(() -> call.applyAsLong(asked)), due);
        check.same(what + ": all that is told behind it", Whole.of(asked), Whole.of(twin));
        check.same(what + ": quills in the next hours", asked.pass(13), twin.pass(13));
        check.same(what + ": all that is told hours later", Whole.of(asked), Whole.of(twin));
        check.same(what + ": teach() of the tape", asked.teach(), twin.teach());
        check.same(what + ": all that is told behind it", Whole.of(asked), Whole.of(twin));
    }
}

import java.nio.ByteBuffer;
import java.nio.charset.StandardCharsets;
import java.util.Arrays;

/** The example of README.md. */
public final class Example {
    private static final String LIST = """
            garden hill sticks 40 grows 6 thick 2;
            rack loft holds 30;
            peeler ana of hill to loft skill 4;
            boat gull holds 20 speed 5;
            river 9 current 1;
            shade 0 is 2;
            price first 9;
            whet ana when edge ana < 10 and coins >= 2;
            load gull with min(20, store first) of first when store first > 7;
            rest ana when room loft = 0;
            """;

    public static void main(String[] args) {
        QuillBoats river = new QuillBoats();
        write(river, LIST);
        tell("teach()", river.teach());
        tell("count(6), orders", river.count(6));
        tell("pass(10), quills peeled", river.pass(10));
        tell("grade(0, 0), quills of the first grade in the store", river.grade(0, 0));
        tell("boat(0, 2), the mile of gull", river.boat(0, 2));
        tell("until(0), hours until gull lies at the landing", river.until(0));
        tell("foresee(24, 1), coins two days later", river.foresee(24, 1));
        tell("whet(0), coins left", river.whet(0));
        tell("grant(100), coins then", river.grant(100));

        write(river, "boat gull holds 41 speed 5;");
        tell("teach() of a boat that holds too many", river.teach());
        tell("errorAt(), of the number 41", river.errorAt());
        tell("count(5), boats as before", river.count(5));
        try {
            river.boat(1, 0);
        } catch (IndexOutOfBoundsException thrown) {
            System.out.println("boat(1, 0): there is no such boat");
        }
    }

    /** Twenty bytes a call; what the last call has beyond the list is cut off. */
    static void write(QuillBoats river, String list) {
        byte[] bytes = list.getBytes(StandardCharsets.US_ASCII);
        ByteBuffer four = ByteBuffer.wrap(Arrays.copyOf(bytes, bytes.length + 19));
        int before = river.count(15);
        while (four.position() < bytes.length) {
            river.feed(four.getInt(), four.getInt(), four.getInt(), four.getInt(), four.getInt());
        }
        river.trim(before + bytes.length);
    }

    private static void tell(String call, int answer) {
        System.out.println(call + ": " + answer);
    }
}

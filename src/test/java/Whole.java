/** All that an object tells without being changed: two texts that differ tell two states apart. */
final class Whole {
    private Whole() {
    }

    static String of(QuillBoats x) {
        StringBuilder text = new StringBuilder();
        add(text, "digest", x.digest());
        add(text, "errorAt", x.errorAt());
        add(text, "mean", Double.doubleToLongBits(x.mean()));
        for (int grade = 0; grade < 4; grade++) {
            add(text, "worth", x.worth(grade, 40));
        }
        for (int rack = 0; rack < x.count(3); rack++) {
            for (int place = 0; place < x.rack(rack, 2); place++) {
                add(text, "dry", x.dry(rack, place, 0) * 10L + x.dry(rack, place, 1));
            }
        }
        for (int boat = 0; boat < x.count(5); boat++) {
            add(text, "until", x.until(boat));
            add(text, "advise", x.advise(boat, 30));
        }
        add(text, "best", x.best(30));
        for (int what : new int[] {1, 7, 8, 9, 10, 11, 12}) {
            add(text, "foresee", x.foresee(1, what));
            add(text, "foresee", x.foresee(120, what));
        }
        return text.toString();
    }

    private static void add(StringBuilder text, String name, long number) {
        text.append(name).append(' ').append(number).append("; ");
    }
}

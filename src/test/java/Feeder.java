/** Puts a text on the model's tape, as Check does for the class. */
final class Feeder {
    private Feeder() {
    }

    static int tell(Model model, String text) {
        StringBuilder whole = new StringBuilder(text);
        while (whole.length() % 20 != 0) {
            whole.append((char) 0);
        }
        for (int i = 0; i < whole.length(); i += 20) {
            model.feed(four(whole, i), four(whole, i + 4), four(whole, i + 8), four(whole, i + 12),
                    four(whole, i + 16));
        }
        model.trim(text.length());
        return model.teach();
    }

    private static int four(StringBuilder text, int at) {
        return text.charAt(at) << 24 | text.charAt(at + 1) << 16 | text.charAt(at + 2) << 8 | text.charAt(at + 3);
    }
}

import java.util.ArrayList;
import java.util.List;

/** Makes lists by dice: lively ones without errors, and ones that are spoilt somewhere. */
final class Lists {
    private static final String[] GRADES = {"first", "second", "third", "fourth"};
    private final Dice dice;
    private final List<String> tokens = new ArrayList<>();
    private int gardens;
    private int racks;
    private int peelers;
    private int boats;

    Lists(Dice dice) {
        this.dice = dice;
    }

    private void add(Object... all) {
        for (Object one : all) {
            tokens.add(one.toString());
        }
    }

    private String some(char kind, int many) {
        return kind + String.valueOf(dice.below(Math.max(1, many)));
    }

    /** Tokens of a list without errors, if it is not too long. */
    List<String> lively() {
        tokens.clear();
        gardens = dice.from(dice.oneIn(10) ? 0 : 1, 4);
        racks = dice.from(dice.oneIn(10) ? 0 : 1, 4);
        peelers = gardens == 0 || racks == 0 ? 0 : dice.from(dice.oneIn(10) ? 0 : 1, 8);
        boats = dice.from(dice.oneIn(10) ? 0 : 1, 4);
        for (int i = 0; i < gardens; i++) {
            add("garden", "g" + i, "sticks", dice.from(0, 99), "grows", dice.from(0, 20), "thick",
                    dice.oneIn(3) ? dice.from(1, 9) : dice.from(1, 4), ";");
        }
        for (int i = 0; i < racks; i++) {
            add("rack", "r" + i, "holds", dice.oneIn(4) ? dice.from(1, 9) : dice.from(10, 60), ";");
        }
        for (int i = 0; i < peelers; i++) {
            add("peeler", "p" + i, "of", some('g', gardens), "to", some('r', racks), "skill", dice.from(1, 9), ";");
        }
        for (int i = 0; i < boats; i++) {
            add("boat", "b" + i, "holds", dice.from(1, 40), "speed", dice.from(1, 9), ";");
        }
        settings();
        int orders = dice.oneIn(6) ? dice.from(0, 20) : dice.from(0, 7);
        for (int i = 0; i < orders; i++) {
            order();
        }
        return tokens;
    }

    private void settings() {
        if (dice.oneIn(2)) {
            add("river", dice.oneIn(3) ? dice.from(1, 60) : dice.from(1, 15), "current", dice.from(0, 5), ";");
        }
        int shades = dice.oneIn(2) ? 0 : dice.from(1, 6);
        for (int i = 0; i < shades; i++) {
            add("shade", dice.from(0, 11), "is", dice.from(0, 3), ";");
        }
        int prices = dice.from(0, 3);
        for (int i = 0; i < prices; i++) {
            add("price", dice.of(GRADES), dice.oneIn(4) ? dice.from(0, 50) : dice.from(1, 12), ";");
        }
    }

    private void order() {
        int kind = dice.below(4);
        if (kind == 0 && peelers > 0) {
            add("whet", some('p', peelers), "when");
            test(2);
            add(";");
        } else if (kind == 1 && peelers > 0) {
            add("rest", some('p', peelers), "when");
            test(2);
            add(";");
        } else if (boats > 0) {
            add("load", some('b', boats), "with");
            sum(2);
            add("of", dice.of(GRADES));
            if (dice.oneIn(2)) {
                add("when");
                test(2);
            }
            add(";");
        }
    }

    private void test(int deep) {
        both(deep);
        for (int i = 0; i < 2 && dice.oneIn(4); i++) {
            add("or");
            both(deep);
        }
    }

    private void both(int deep) {
        single(deep);
        for (int i = 0; i < 2 && dice.oneIn(4); i++) {
            add("and");
            single(deep);
        }
    }

    private void single(int deep) {
        int kind = dice.below(10);
        if (kind == 0 && deep > 0) {
            add("not");
            single(deep - 1);
        } else if (kind == 1 && deep > 0) {
            add("[");
            test(deep - 1);
            add("]");
        } else if (kind == 2 && boats > 0) {
            add("afloat", some('b', boats));
        } else if (kind == 3 && peelers > 0) {
            add("blunt", some('p', peelers));
        } else {
            sum(deep);
            add(dice.of("<", ">", "=", "<=", ">="));
            sum(deep);
        }
    }

    private void sum(int deep) {
        product(deep);
        for (int i = 0; i < 2 && dice.oneIn(4); i++) {
            add(dice.of("+", "-"));
            product(deep);
        }
    }

    private void product(int deep) {
        value(deep);
        for (int i = 0; i < 2 && dice.oneIn(6); i++) {
            add(dice.of("*", "/"));
            value(deep);
        }
    }

    private void value(int deep) {
        switch (dice.below(14)) {
            case 0 -> add("hour");
            case 1 -> add("coins");
            case 2 -> ask("sticks", 'g', gardens);
            case 3 -> ask("edge", 'p', peelers);
            case 4 -> ask("room", 'r', racks);
            case 5 -> ask("mile", 'b', boats);
            case 6 -> add("store", dice.of(GRADES));
            case 7 -> add("price", dice.of(GRADES));
            case 8 -> deeper(deep, 0);
            case 9 -> deeper(deep, 1);
            case 10 -> deeper(deep, 2);
            case 11 -> add(dice.of(0, 1, 2, 999999, 65536, 46341));
            default -> add(dice.from(0, 20));
        }
    }

    private void ask(String word, char kind, int many) {
        if (many > 0) {
            add(word, some(kind, many));
        } else {
            add(dice.from(0, 9));
        }
    }

    private void deeper(int deep, int kind) {
        if (deep == 0) {
            add(dice.from(0, 30));
        } else if (kind == 0) {
            add("-");
            value(deep - 1);
        } else if (kind == 1) {
            add("(");
            sum(deep - 1);
            add(")");
        } else {
            add(dice.of("min", "max"), "(");
            sum(deep - 1);
            add(",");
            sum(deep - 1);
            add(")");
        }
    }

    private static final String[] ANY = {
        "garden", "sticks", "grows", "thick", "rack", "holds", "peeler", "of", "to", "skill", "boat", "speed",
        "river", "current", "shade", "is", "price", "first", "second", "third", "fourth", "whet", "load", "with",
        "rest", "when", "hour", "coins", "edge", "room", "store", "mile", "afloat", "blunt", "not", "and", "or",
        "min", "max", "(", ")", "[", "]", ";", ",", "+", "-", "*", "/", "<", ">", "=", "<=", ">=", "g0", "r0", "p0",
        "b0", "g9", "p7", "x", "abcdefghij", "abcdefghijk", "first1", "0", "1", "9", "10", "60", "61", "40", "41",
        "99", "100", "999999", "000007", "1000000", "!", "A", "_", "\t", "\r", "\u00e9", "\u0000", "\"", ".", ":"};

    /** Changes a token or some of them. */
    void spoil(List<String> row) {
        int times = dice.oneIn(3) ? dice.from(2, 4) : 1;
        for (int i = 0; i < times; i++) {
            int place = dice.below(row.size() + 1);
            int way = dice.below(4);
            if (way == 0) {
                row.add(place, dice.of(ANY));
            } else if (way == 1 && place < row.size()) {
                row.set(place, dice.of(ANY));
            } else if (way == 2 && place < row.size()) {
                row.remove(place);
            } else if (way == 3) {
                row.subList(place, row.size()).clear();
            }
        }
    }

    /** Puts more lines behind it than there may be of them, or nearly. */
    void crowd(List<String> row) {
        int kind = dice.below(5);
        int many = kind == 4 ? dice.from(14, 21) : kind == 2 ? dice.from(1, 9) : dice.from(1, 5);
        for (int i = 0; i < many; i++) {
            String line = switch (kind) {
                case 0 -> "garden x" + i + " sticks 1 grows 1 thick 1 ;";
                case 1 -> "rack x" + i + " holds 1 ;";
                case 2 -> "peeler x" + i + " of g0 to r0 skill 1 ;";
                case 3 -> "boat x" + i + " holds 1 speed 1 ;";
                default -> dice.of("load b0 with 1 of first ;", "rest p0 when blunt p0 ;", "whet p0 when 1 > 0 ;");
            };
            row.addAll(List.of(line.split(" ")));
        }
    }

    /** Changes one number or name to one of the same kind of token. */
    void mistake(List<String> row) {
        for (int tries = 0; tries < 20 && !row.isEmpty(); tries++) {
            int place = dice.below(row.size());
            String token = row.get(place);
            if (Character.isDigit(token.charAt(0))) {
                row.set(place, dice.of("0", "1", "9", "10", "5", "6", "3", "4", "11", "12", "20", "21", "40", "41",
                        "50", "51", "60", "61", "99", "100", "999999"));
                return;
            }
            if (token.matches("[grpb][0-9]")) {
                row.set(place, dice.of("g0", "r0", "p0", "b0", "g1", "r1", "p1", "b1", "g3", "p7", "z"));
                return;
            }
        }
    }

    /** The tokens as a text, with blanks where they are needed and where the dice want them. */
    String text(List<String> row) {
        StringBuilder text = new StringBuilder();
        String before = "";
        for (String token : row) {
            boolean needed = !before.isEmpty() && (before + token).matches("[a-z][a-z0-9]*|[0-9]+|[<>]=");
            boolean grows = !before.isEmpty() && isWord(before) && isWord(token);
            if (needed || (grows && !dice.oneIn(4)) || dice.oneIn(12)) {
                text.append(dice.oneIn(5) ? "\n" : " ");
            }
            text.append(token);
            before = token;
        }
        if (dice.oneIn(4)) {
            text.append(dice.of(" ", "\n", "  \n "));
        }
        return text.toString();
    }

    private static boolean isWord(String token) {
        return Character.isLetterOrDigit(token.charAt(0));
    }
}

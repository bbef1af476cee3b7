import java.util.ArrayList;
import java.util.HashMap;
import java.util.HashSet;
import java.util.List;
import java.util.Map;
import java.util.Set;

/**
 * Tells the first token with which a row of tokens is not the beginning of a list, from the document's grammar
 * itself: it follows all rows of what may still come at once, so it shares nothing with a reader by hand.
 */
final class Ebnf {
    private static final String GRAMMAR = """
            list = { line ";" }
            line = "garden" name "sticks" number "grows" number "thick" number | "rack" name "holds" number | "peeler" name "of" name "to" name "skill" number | "boat" name "holds" number "speed" number | "river" number "current" number | "shade" number "is" number | "price" grade number | "whet" name "when" test | "load" name "with" sum "of" grade [ "when" test ] | "rest" name "when" test
            grade = "first" | "second" | "third" | "fourth"
            test = both { "or" both }
            both = single { "and" single }
            single = "not" single | "[" test "]" | "afloat" name | "blunt" name | sum ( "<" | ">" | "=" | "<=" | ">=" ) sum
            sum = product { ( "+" | "-" ) product }
            product = value { ( "*" | "/" ) value }
            value = number | "hour" | "coins" | ( "sticks" | "edge" | "room" | "mile" ) name | ( "store" | "price" ) grade | "-" value | "(" sum ")" | ( "min" | "max" ) "(" sum "," sum ")"
            """;
    private static final int DEEPEST = 8;

    private enum Form { SEQUENCE, CHOICE, REPEAT, OPTION, TOKEN, RULE }

    private record Node(Form form, String text, List<Node> parts) {
    }

    /** What has still to come: a node at a depth, then the rest. */
    private record Row(Node node, int depth, Row rest) {
    }

    private static final Row NOTHING = new Row(null, 0, null);

    private final Map<String, Node> rules = new HashMap<>();
    private String[] words;
    private int at;

    Ebnf() {
        for (String line : GRAMMAR.split("\n")) {
            int equals = line.indexOf(" = ");
            words = line.substring(equals + 3).trim().split(" +");
            at = 0;
            rules.put(line.substring(0, equals), choice());
        }
    }

    private Node choice() {
        List<Node> parts = new ArrayList<>();
        parts.add(sequence());
        while (at < words.length && words[at].equals("|")) {
            at++;
            parts.add(sequence());
        }
        return new Node(Form.CHOICE, "", parts);
    }

    private Node sequence() {
        List<Node> parts = new ArrayList<>();
        while (at < words.length && !words[at].equals("|") && !words[at].equals(")")
                && !words[at].equals("]") && !words[at].equals("}")) {
            String word = words[at++];
            switch (word) {
                case "(" -> parts.add(closed(Form.SEQUENCE));
                case "[" -> parts.add(closed(Form.OPTION));
                case "{" -> parts.add(closed(Form.REPEAT));
                default -> parts.add(word.startsWith("\"")
                        ? new Node(Form.TOKEN, word.substring(1, word.length() - 1), List.of())
                        : new Node(word.equals("name") || word.equals("number") ? Form.TOKEN : Form.RULE, word,
                                List.of()));
            }
        }
        return new Node(Form.SEQUENCE, "", parts);
    }

    private Node closed(Form form) {
        Node inner = choice();
        at++;
        return new Node(form, "", List.of(inner));
    }

    /** All rows that begin with a token (or are nothing) and can stand for this one. */
    private void open(Row row, Set<Row> into) {
        if (row == NOTHING || row.node.form == Form.TOKEN) {
            into.add(row);
            return;
        }
        List<Node> parts = row.node.parts;
        switch (row.node.form) {
            case CHOICE -> {
                for (Node part : parts) {
                    open(new Row(part, row.depth, row.rest), into);
                }
            }
            case REPEAT -> {
                open(row.rest, into);
                open(new Row(parts.get(0), row.depth, row), into);
            }
            case OPTION -> {
                open(row.rest, into);
                open(new Row(parts.get(0), row.depth, row.rest), into);
            }
            case RULE -> {
                if (row.depth <= DEEPEST) {
                    open(new Row(rules.get(row.node.text), row.depth, row.rest), into);
                }
            }
            default -> openSequence(row, into);
        }
    }

    /** What stands behind a not, a [, a ( or a - in front is one deeper; a - in front begins its sequence. */
    private void openSequence(Row row, Set<Row> into) {
        List<Node> parts = row.node.parts;
        int[] depths = new int[parts.size()];
        int depth = row.depth;
        for (int i = 0; i < parts.size(); i++) {
            String text = parts.get(i).form == Form.TOKEN ? parts.get(i).text : "";
            depths[i] = depth;
            if (text.equals("not") || text.equals("[") || text.equals("(") || (text.equals("-") && i == 0)) {
                depth++;
            }
        }
        Row rest = row.rest;
        for (int i = parts.size() - 1; i >= 0; i--) {
            rest = new Row(parts.get(i), depths[i], rest);
        }
        open(rest, into);
    }

    /** Tokens are keywords and symbols by their text, "name", "number", "end", or others that are always wrong. */
    int firstWrong(List<String> tokens) {
        Set<Row> rows = new HashSet<>();
        open(new Row(rules.get("list"), 0, NOTHING), rows);
        for (int i = 0; i < tokens.size(); i++) {
            String token = tokens.get(i);
            if (token.equals("end")) {
                return rows.contains(NOTHING) ? -1 : i;
            }
            Set<Row> next = new HashSet<>();
            for (Row row : rows) {
                if (row != NOTHING && row.node.text.equals(token)) {
                    open(row.rest, next);
                }
            }
            if (next.isEmpty()) {
                return i;
            }
            rows = next;
        }
        return -1;
    }
}

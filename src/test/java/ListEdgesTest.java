import java.util.ArrayList;
import java.util.List;

/** The edges of a list: its grammar, depth, errors 1 to 5, how many there may be of each, ranges, what counts. */
public final class ListEdgesTest {
    private static final Check CHECK = new Check("ListEdgesTest");
    private static final String GARDEN = "garden g sticks 1 grows 1 thick 1;";
    private static final String RACK = "rack r holds 5;";
    private static final String PEELER = "peeler p of g to r skill 1;";
    private static final String BOAT = "boat b holds 1 speed 1;";
    private static final String PLACE = GARDEN + RACK + PEELER + BOAT;
    private static final String REST = PLACE + "rest p when ";
    private static final String LOAD = PLACE + "load b with ";
    private static final String RIVER = "river 1 current 1;";

    public static void main(String[] args) {
        aListHasAnyNumberOfLines();
        eachLineEndsWithASemicolon();
        everyTokenInEveryPlace();
        anyNumberOfRepeatsAlsoNone();
        theOptionalTestOfALoading();
        depthIsAtMostEight();
        depthOfMixedTokens();
        depthEndsBehindWhatIsClosedOrTurned();
        depthBeginsAnewInEachTestAndSum();
        errorOneIsTheFirstWrongToken();
        theEndOfTheTapeIsAtItsLength();
        fourHundredTokensButNot401();
        errorTwoIsANameOfTheSameKind();
        namesAreTheSameByEachOfTheirSigns();
        errorThreeIsANameOfNothing();
        namesHaveToBeToldAhead();
        errorFourOfNames();
        errorFourOfOrders();
        errorFiveOutsideOfTheRanges();
        sumsHaveNoRange();
        theFirstErrorFromLeftToRight();
        errorOneAheadOfAll();
        theSmallestNumberAtOneToken();
        allAreNumberedFromNought();
        theLatestLineCounts();
        withoutThem();
        CHECK.end();
    }

    /** "list = { line ";" }" and "{ x } x any number of times, also none" */
    private static void aListHasAnyNumberOfLines() {
        CHECK.fine("");
        for (int lines = 1; lines <= 80; lines++) {
            CHECK.fine(RIVER.repeat(lines));
        }
        for (String line : new String[] {GARDEN, RACK, BOAT, RIVER, "shade 1 is 1;", "price first 1;"}) {
            CHECK.fine(line);
        }
    }

    private static void eachLineEndsWithASemicolon() {
        for (String line : new String[] {GARDEN, RACK, BOAT, RIVER, "shade 1 is 1;", "price first 1;", PLACE,
            REST + "1=1;", PLACE + "whet p when blunt p;", LOAD + "1 of first;", LOAD + "1 of first when afloat b;"}) {
            String open = line.substring(0, line.length() - 1);
            CHECK.fine(line);
            CHECK.list(open, 1, open.length());
            CHECK.list(open + " \n", 1, open.length() + 2);
            CHECK.list(open + ",", 1, open.length());
            CHECK.list(line + ";", 1, line.length());
            CHECK.list(";" + line, 1, 0);
            CHECK.list(open + " " + RIVER, 1, open.length() + 1);
        }
    }

    private static final String[] TOKENS = ("garden sticks grows thick rack holds peeler of to skill boat speed river "
            + "current shade is price first second third fourth whet load with rest when hour coins edge room store "
            + "mile afloat blunt not and or min max ( ) [ ] ; , + - * / < > = <= >= g r p b x 1 0 ! abcdefghijk 1234567")
            .split(" ");

    /** Each token of lists with all that there can be left out, changed to each other one, and each put in. */
    private static void everyTokenInEveryPlace() {
        everyToken("garden g sticks 1 grows 1 thick 1 ; rack r holds 5 ; peeler p of g to r skill 1 ; "
                + "boat b holds 1 speed 1 ; river 1 current 1 ; shade 1 is 1 ; price second 1 ; whet p when blunt p ;");
        everyToken((PLACE + "load b with 1 + hour * - ( coins ) of third when [ not afloat b and 1 <= 2 ] or 1 > 0 ;")
                .replace(";", " ; "));
        everyToken((PLACE + "rest p when sticks g - edge p / room r < min ( mile b , store first ) or "
                + "max ( price fourth , 1 ) = 0 and blunt p ;").replace(";", " ; "));
    }

    private static void everyToken(String list) {
        List<String> row = List.of(list.trim().split(" +"));
        for (int place = 0; place < row.size(); place++) {
            List<String> without = new ArrayList<>(row);
            without.remove(place);
            sameAsModel(String.join(" ", without));
            sameAsModel(String.join("\n", row.subList(0, place)) + "\n");
            for (String token : TOKENS) {
                List<String> changed = new ArrayList<>(row);
                changed.set(place, token);
                sameAsModel(String.join(" ", changed));
                changed.add(place, row.get(place));
                sameAsModel(String.join(" ", changed));
            }
        }
    }

    private static void sameAsModel(String text) {
        QuillBoats boats = new QuillBoats();
        Model model = new Model();
        CHECK.same("teach() of " + text, Check.tell(boats, text), Feeder.tell(model, text));
        CHECK.same("errorAt() of " + text, boats.errorAt(), model.errorAt());
    }

    private static void anyNumberOfRepeatsAlsoNone() {
        for (int times = 0; times <= 40; times++) {
            CHECK.fine(REST + "1=1" + " or 1=1".repeat(times) + ";");
            CHECK.fine(REST + "1=1" + " and 1=1".repeat(times) + ";");
            CHECK.fine(REST + "1" + "+1".repeat(times) + "=1;");
            CHECK.fine(REST + "1=1" + "-1".repeat(times) + ";");
            CHECK.fine(LOAD + "1" + "*1".repeat(times) + " of first;");
            CHECK.fine(LOAD + "1" + "/1".repeat(times) + " of first;");
            CHECK.list(REST + "1=1" + " or 1=1".repeat(times) + " or;", 1, REST.length() + 3 + 7 * times + 3);
            CHECK.list(REST + "1" + "+1".repeat(times) + "+=1;", 1, REST.length() + 2 + 2 * times);
        }
    }

    /** "[ "when" test ]" of load alone: whet and rest have to have one. */
    private static void theOptionalTestOfALoading() {
        CHECK.fine(LOAD + "1 of first;");
        CHECK.fine(LOAD + "1 of first when 1=1;");
        CHECK.list(LOAD + "1 of first when;", 1, LOAD.length() + 15);
        CHECK.list(LOAD + "1 of first when 1=1 when 1=1;", 1, LOAD.length() + 20);
        CHECK.list(PLACE + "whet p;", 1, PLACE.length() + 6);
        CHECK.list(PLACE + "rest p;", 1, PLACE.length() + 6);
    }

    /** "It may be at most 8." The 9th is wrong: "the (, [, - or not behind which the depth would be 9". */
    private static void depthIsAtMostEight() {
        for (int depth = 0; depth <= 12; depth++) {
            deep(REST, "[", 0, "]", depth, "1=1", ";");
            deep(REST, "not ", 0, "", depth, "1=1", ";");
            deep(REST, "(", 0, ")", depth, "1", "=1;");
            deep(REST, "-", 0, "", depth, "1", "=1;");
            deep(REST, "min(", 3, ",2)", depth, "1", "=1;");
            deep(REST, "max(2,", 3, ")", depth, "1", "=1;");
            deep(REST + "1<", "(", 0, ")", depth, "1", ";");
            deep(REST + "1<", "-", 0, "", depth, "1", ";");
            deep(REST + "1=1 and ", "[", 0, "]", depth, "1=1", ";");
            deep(REST + "1=1 or ", "not ", 0, "", depth, "blunt p", ";");
            deep(REST + "2*", "(", 0, ")", depth, "1", "=1;");
            deep(REST + "2/", "-", 0, "", depth, "1", "=1;");
            deep(REST + "2-", "-", 0, "", depth, "1", "=1;");
            deep(PLACE + "whet p when ", "[", 0, "]", depth, "afloat b", ";");
            deep(LOAD, "(", 0, ")", depth, "1", " of first;");
            deep(LOAD, "-", 0, "", depth, "1", " of first;");
            deep(LOAD, "min(1,", 3, ")", depth, "sticks g", " of first;");
            deep(LOAD + "1 of first when ", "[", 0, "]", depth, "1=1", ";");
            deep(LOAD + "1 of first when ", "not ", 0, "", depth, "1=1", ";");
        }
    }

    /** What is so deep; of what goes deeper the token at the offset counts. */
    private static void deep(String before, String open, int offset, String close, int depth, String inner, String behind) {
        String list = before + open.repeat(depth) + inner + close.repeat(depth) + behind;
        CHECK.list(list, depth <= 8 ? 0 : 1, depth <= 8 ? -1 : before.length() + 8 * open.length() + offset);
    }

    private static final String[] OF_TESTS = {"[", "not "};
    private static final String[] OF_SUMS = {"(", "-", "min(", "max(7*"};

    /** Nine that go deeper, some of tests, then some of sums: the ninth is wrong, eight are not. */
    private static void depthOfMixedTokens() {
        for (int ofTests = 0; ofTests <= 9; ofTests++) {
            for (int mix = 0; mix < 256; mix++) {
                mixed(ofTests, mix, 8);
                mixed(ofTests, mix, 9);
            }
        }
    }

    private static void mixed(int ofTests, int mix, int depth) {
        StringBuilder open = new StringBuilder(REST);
        String closeTests = "";
        String closeSums = "";
        int place = -1;
        for (int i = 0; i < depth; i++) {
            int which = mix >> i & 1;
            String token = i < ofTests ? OF_TESTS[which] : OF_SUMS[which + 2 * (mix >> (i + 3) % 8 & 1)];
            place = open.length() + (token.startsWith("m") ? 3 : 0);
            open.append(token);
            closeTests = token.equals("[") ? "]" + closeTests : closeTests;
            closeSums = token.equals("(") || token.equals("max(7*") ? ")" + closeSums : closeSums;
            if (token.equals("min(")) {
                closeSums = ",1)" + closeSums;
            }
            if (token.equals("max(7*")) {
                closeSums = closeSums.replaceFirst("\\)", ",1)");
            }
        }
        String list = open + "1" + closeSums + "=1" + closeTests + ";";
        CHECK.list(list, depth <= 8 ? 0 : 1, depth <= 8 ? -1 : place);
    }

    /** "1 greater between a ( and its ), a [ and its ], behind a - in front (of a value) for what it turns, ..." */
    private static void depthEndsBehindWhatIsClosedOrTurned() {
        String[] sums = {"((((((((1))))))))", "--------1", "-(-(-(-(1))))", "min(1,(((((((1))))))))", "----((((1))))",
            "max(-------1,-------1)", "min(min(1,min(1,1)),min(min(1,1),1))"};
        for (String one : sums) {
            for (String other : sums) {
                for (String sign : new String[] {"+", "-", "*", "/", "<", "="}) {
                    String end = sign.equals("<") || sign.equals("=") ? ";" : "=1;";
                    CHECK.fine(REST + one + sign + other + end);
                }
                CHECK.fine(REST + "1<" + one + " and 1<" + other + " or not not 1=1;");
                CHECK.fine(LOAD + one + "*" + other + " of first;");
            }
        }
        String[] tests = {"[[[[[[[[1=1]]]]]]]]", "not not not not not not not not 1=1", "not[not[not[not[1=1]]]]",
            "not not not not blunt p", "not not not not[[[[1=1]]]]", "not not not not not not not[1=1]"};
        for (String one : tests) {
            for (String other : tests) {
                CHECK.fine(REST + one + " and " + other + ";");
                CHECK.fine(REST + one + " or " + other + ";");
            }
        }
        CHECK.list(REST + "not not not not not not not not 1=(1);", 1, REST.length() + 34);
        CHECK.list(REST + "not not not not not not not not(1)=1;", 1, REST.length() + 31);
        CHECK.list(REST + "not not not not not not not not-1=1;", 1, REST.length() + 31);
        CHECK.fine(REST + "not not not not not not not 1=(1);");
        CHECK.list(REST + "--------(1)=1;", 1, REST.length() + 8);
        CHECK.fine(REST + "-------(1)=1;");
        CHECK.list(REST + "min(1,((((((((1)))))))))=1;", 1, REST.length() + 13);
        CHECK.list(REST + "min(((((((((1)))))))),1)=1;", 1, REST.length() + 11);
        CHECK.list(REST + "[[[[[[[[1=1 and [1=1]]]]]]]]];", 1, REST.length() + 16);
        CHECK.fine(REST + "[[[[[[[[1=1 and 1=1 or 1=1]]]]]]]];");
    }

    private static void depthBeginsAnewInEachTestAndSum() {
        String deepSum = "((((((((1))))))))";
        String deepTest = "[[[[[[[[1=1]]]]]]]]";
        CHECK.fine(LOAD + deepSum + " of first when " + deepTest + ";rest p when " + deepTest + ";whet p when " + deepTest
                + ";load b with " + deepSum + " of first;");
        CHECK.list(LOAD + deepSum + " of first when [" + deepTest + "];", 1, LOAD.length() + deepSum.length() + 23);
    }

    /** "the first token with which the tokens so far are not the beginning of a list" */
    private static void errorOneIsTheFirstWrongToken() {
        CHECK.list("! !", 1, 0);
        CHECK.list(RIVER + "river 1 current;river 1 current;", 1, RIVER.length() + 15);
        CHECK.list("river river", 1, 6);
        CHECK.list("river 1 abcdefghijk !", 1, 8);
        CHECK.list("river 1 1234567", 1, 8);
        CHECK.list("river 1 ", 1, 8);
        CHECK.list("river 1 current 1;garden", 1, 24);
        CHECK.list("price fifth 1;", 1, 6);
        CHECK.list(REST + "1=1 and [1=1 or];", 1, REST.length() + 15);
    }

    /** "the end of the tape (at its length)" */
    private static void theEndOfTheTapeIsAtItsLength() {
        String line = "garden g sticks 1 grows 1 thick 1";
        for (String blanks : new String[] {"", " ", "\n", "   ", " \n \n"}) {
            for (String part : new String[] {"garden ", "garden g ", "garden g sticks ", "garden g sticks 1 ", line}) {
                CHECK.list(part + blanks, 1, part.length() + blanks.length());
            }
        }
    }

    /** "and the token that would be the 401st (the end of the tape not counted)" */
    private static void fourHundredTokensButNot401() {
        String whole = RIVER.repeat(80);
        CHECK.fine(whole);
        CHECK.fine(whole + " \n ");
        for (String more : new String[] {"river", ";", "g", "1", "!", "abcdefghijkl", "1234567", "<=", "river 1 current 1;"}) {
            CHECK.list(whole + more, 1, whole.length());
            CHECK.list(whole + "\n\n" + more, 1, whole.length() + 2);
        }
        String lacking = RIVER.repeat(79) + "river 1 current 1";
        CHECK.list(lacking, 1, lacking.length());
        CHECK.fine(lacking + ";");
        String price = RIVER.repeat(78) + "price first 1;";
        CHECK.fine(price + "shade 1 is 1;");
        CHECK.list(price + "shade 1 is 1;" + "price first 1;", 1, price.length() + 19);
        CHECK.list(price + "shade 1 is 1;" + "x", 1, price.length() + 13);
        CHECK.list(RIVER.repeat(79) + "garden g sticks 1 grows 1 thick 1;", 1, RIVER.length() * 79 + 24);
        CHECK.list(RIVER.repeat(79) + "boat b holds 1 speed 1;", 1, RIVER.length() * 79 + 21);
        CHECK.list("price fifth" + whole, 1, 6);
        CHECK.list("river 61 current 1;" + RIVER.repeat(79) + ";", 1, 19 + RIVER.length() * 79);
        String sum = GARDEN + RACK + PEELER + "rest p when 0";
        CHECK.fine(sum + "+1".repeat(185) + "=1;");
        CHECK.list(sum + "+1".repeat(186) + "=1;", 1, sum.length() + 2 * 186 + 1);
        CHECK.list(sum + "+1".repeat(188), 1, sum.length() + 2 * 186 + 1);
    }

    /** "Error 2: the name behind garden, rack, peeler or boat ... is that of one of the same kind told ahead." */
    private static void errorTwoIsANameOfTheSameKind() {
        CHECK.list(GARDEN + GARDEN, 2, GARDEN.length() + 7);
        CHECK.list(RACK + RACK, 2, RACK.length() + 5);
        CHECK.list(PLACE + PEELER, 2, PLACE.length() + 7);
        CHECK.list(BOAT + BOAT, 2, BOAT.length() + 5);
        CHECK.list(PLACE + "boat a holds 1 speed 1;" + BOAT, 2, PLACE.length() + 28);
        CHECK.list("rack a holds 1;rack c holds 1;rack d holds 1;rack c holds 1;", 2, 50);
        CHECK.list("rack a holds 1;rack c holds 1;rack d holds 1;rack a holds 1;", 2, 50);
        CHECK.fine("garden x sticks 1 grows 1 thick 1;rack x holds 1;peeler x of x to x skill 1;boat x holds 1 speed 1;");
        CHECK.fine("rack x holds 1;rack xx holds 1;rack xxx holds 1;rack x1 holds 1;");
    }

    /** Two names that differ in one sign, or in their length alone, are two; the same twice is error 2. */
    private static void namesAreTheSameByEachOfTheirSigns() {
        String signs = "abcdefghijklmnopqrstuvwxyz0123456789";
        for (int place = 0; place < 10; place++) {
            String letters = place == 0 ? signs.substring(0, 26) : signs;
            for (int i = 0; i < letters.length(); i++) {
                for (int j = 0; j < letters.length(); j++) {
                    String before = "quillboats".substring(0, place);
                    String behind = "quillboats".substring(place + 1);
                    twoRacks(before + letters.charAt(i) + behind, before + letters.charAt(j) + behind);
                }
            }
        }
        String[] several = {"a", "aa", "aaa", "aaaaaaaaaa", "b", "ab", "ba", "aab", "z", "z0", "za", "a0", "b0", "a00",
            "zz", "z9", "zzzzzzzzzz", "z999999999", "a000000000", "r", "rac", "racks", "q1", "q01", "q10"};
        for (String one : several) {
            for (String other : several) {
                twoRacks(one, other);
            }
        }
    }

    private static void twoRacks(String one, String other) {
        String first = "rack " + one + " holds 1;";
        boolean same = one.equals(other);
        CHECK.list(first + "rack " + other + " holds 2;", same ? 2 : 0, same ? first.length() + 5 : -1);
    }

    /** "Error 3: another name is none of what it has to be, told ahead" */
    private static void errorThreeIsANameOfNothing() {
        for (String other : new String[] {"r", "p", "b", "x"}) {
            errorThree(GARDEN + RACK + BOAT + "peeler q of ", other, " to r skill 1;");
            errorThree(LOAD + "sticks ", other, " of first;");
        }
        for (String other : new String[] {"g", "p", "b", "x"}) {
            errorThree(PLACE + "peeler q of g to ", other, " skill 1;");
            errorThree(LOAD + "room ", other, " of first;");
        }
        for (String other : new String[] {"g", "r", "b", "x"}) {
            errorThree(PLACE + "whet ", other, " when 1=1;");
            errorThree(PLACE + "rest ", other, " when 1=1;");
            errorThree(REST + "edge ", other, "=1;");
            errorThree(REST + "blunt ", other, ";");
        }
        for (String other : new String[] {"g", "r", "p", "x"}) {
            errorThree(PLACE + "load ", other, " with 1 of first;");
            errorThree(REST + "mile ", other, "=1;");
            errorThree(REST + "afloat ", other, ";");
        }
    }

    private static void errorThree(String before, String name, String behind) {
        CHECK.list(before + name + behind, 3, before.length());
    }

    /** What is told behind it, in the same line or never does not count. */
    private static void namesHaveToBeToldAhead() {
        CHECK.list(RACK + PEELER + GARDEN, 3, RACK.length() + 12);
        CHECK.list(GARDEN + PEELER + RACK, 3, GARDEN.length() + 17);
        CHECK.list("whet p when 1=1;" + PLACE, 3, 5);
        CHECK.list("load b with 1 of first;" + BOAT, 3, 5);
        CHECK.list("boat a holds 1 speed 1;load a with mile b of first;" + BOAT, 3, 40);
        CHECK.list("rack a holds 1;peeler p of p to a skill 1;", 3, 27);
        CHECK.fine(RACK + GARDEN + BOAT + "load b with sticks g+room r of first;" + PEELER + "rest p when blunt p;");
        CHECK.list(PLACE + "rest p when 1=1;rest q when 1=1;peeler q of g to r skill 1;", 3, PLACE.length() + 21);
    }

    private static String lines(String before, int many, String behind) {
        StringBuilder text = new StringBuilder();
        for (int i = 0; i < many; i++) {
            text.append(before).append(i).append(behind);
        }
        return text.toString();
    }

    /** "Error 4: the name of the 5th garden, of the 5th rack, of the 9th peeler or of the 5th boat" */
    private static void errorFourOfNames() {
        most("garden y", " sticks 1 grows 1 thick 1;", 7, 4, 2);
        most("rack y", " holds 1;", 5, 4, 3);
        most("peeler y", " of g to r skill 1;", 7, 8, 4);
        most("boat y", " holds 1 speed 1;", 5, 4, 5);
        CHECK.fine(lines("garden y", 4, " sticks 1 grows 1 thick 1;") + lines("rack y", 4, " holds 1;")
                + lines("peeler y", 8, " of y1 to y2 skill 1;") + lines("boat y", 4, " holds 1 speed 1;"));
    }

    private static void most(String before, String behind, int offset, int most, int what) {
        String place = before.startsWith("peeler") ? GARDEN + RACK : "";
        for (int many = 0; many <= most; many++) {
            CHECK.same(many + " times " + before, Check.told(place + lines(before, many, behind)).count(what), many);
        }
        String full = place + lines(before, most, behind);
        CHECK.list(full + before + "x" + behind, 4, full.length() + offset);
        CHECK.list(full + RIVER + before + "x" + behind, 4, full.length() + RIVER.length() + offset);
        CHECK.list(full + before + "x" + behind + before + "z" + behind, 4, full.length() + offset);
    }

    /** "or the whet, load or rest of the 21st order (of all three together)" */
    private static void errorFourOfOrders() {
        String[] orders = {"whet p when 1=1;", "load b with 1 of first;", "rest p when 1=1;"};
        for (String order : orders) {
            String twenty = PLACE + order.repeat(20);
            CHECK.same("twenty orders", Check.told(twenty).count(6), 20);
            CHECK.same("nineteen orders", Check.told(PLACE + order.repeat(19)).count(6), 19);
            CHECK.same("no order", Check.told(PLACE).count(6), 0);
            for (String another : orders) {
                CHECK.list(twenty + another, 4, twenty.length());
                CHECK.list(twenty + RIVER + another, 4, twenty.length() + RIVER.length());
                CHECK.list(twenty + another + another, 4, twenty.length());
            }
        }
        String mixed = PLACE + (orders[0] + orders[1] + orders[2]).repeat(6) + orders[2] + orders[0];
        CHECK.same("twenty orders of all three kinds", Check.told(mixed).count(6), 20);
        CHECK.list(mixed + orders[1], 4, mixed.length());
    }

    /** "Error 5: a number is out of its range" */
    private static void errorFiveOutsideOfTheRanges() {
        range("garden g sticks ", " grows 1 thick 1;", 0, 99, new int[] {0, 0, 0});
        range("garden g sticks 1 grows ", " thick 1;", 0, 20, new int[] {0, 0, 1});
        range("garden g sticks 1 grows 1 thick ", ";", 1, 9, new int[] {0, 0, 2});
        range("rack r holds ", ";", 1, 60, new int[] {1, 0, 0});
        range("boat b holds ", " speed 1;", 1, 40, new int[] {3, 0, 0});
        range("boat b holds 1 speed ", ";", 1, 9, new int[] {3, 0, 1});
        range(GARDEN + RACK + "peeler p of g to r skill ", ";", 1, 9, new int[] {2, 0, 2});
        range("river ", " current 1;", 1, 60, new int[] {4, 0, 13});
        range("river 1 current ", ";", 0, 5, new int[] {4, 0, 14});
        range("shade ", " is 1;", 0, 11, null);
        for (int hour = 0; hour < 12; hour++) {
            range("shade " + hour + " is ", ";", 0, 3, new int[] {5, hour, 0});
        }
        String[] grades = {"first", "second", "third", "fourth"};
        for (int grade = 0; grade < 4; grade++) {
            range("price " + grades[grade] + " ", ";", 0, 50, new int[] {6, grade, 1});
        }
    }

    /** All numbers from 0 to 110, the greatest there can be, and zeros in front; and what is told then. */
    private static void range(String before, String behind, int least, int most, int[] where) {
        for (int number = 0; number <= 110; number++) {
            boolean within = number >= least && number <= most;
            CHECK.list(before + number + behind, within ? 0 : 5, within ? -1 : before.length());
            if (within && where != null) {
                CHECK.same(before + number + behind, tell(Check.told(before + number + behind), where), number);
                String longest = ("000000" + number).substring(String.valueOf(number).length());
                CHECK.same(before + longest + behind, tell(Check.told(before + longest + behind), where), number);
            }
        }
        for (int number : new int[] {127, 128, 255, 256, 257, 32768, 65536, 65537, 99999, 100000, 262144, 999999}) {
            CHECK.list(before + number + behind, 5, before.length());
        }
    }

    private static int tell(QuillBoats x, int[] where) {
        return switch (where[0]) {
            case 0 -> x.garden(where[1], where[2]);
            case 1 -> x.rack(where[1], where[2]);
            case 2 -> x.peeler(where[1], where[2]);
            case 3 -> x.boat(where[1], where[2]);
            case 4 -> x.count(where[2]);
            case 5 -> x.shade(where[1]);
            default -> x.grade(where[1], where[2]);
        };
    }

    private static void sumsHaveNoRange() {
        for (String number : new String[] {"0", "1", "41", "61", "100", "999999", "000000"}) {
            CHECK.fine(LOAD + number + " of first when " + number + "=" + number + ";");
            CHECK.fine(REST + "hour=" + number + ";");
            CHECK.fine(REST + "price first<" + number + ";");
            CHECK.fine(REST + "sticks g<" + number + ";");
        }
    }

    /** "keywords, names and numbers are looked at from left to right, and the first error is told, at its token" */
    private static void theFirstErrorFromLeftToRight() {
        String five = PLACE + "rack s holds 5;rack t holds 5;rack u holds 5;";
        String[] wrong = {"boat b holds 1 speed 1;", "whet x when 1=1;", "rack v holds 5;", "river 0 current 1;"};
        int[] offsets = {5, 5, 5, 6};
        for (int i = 0; i < wrong.length; i++) {
            for (String other : wrong) {
                CHECK.list(five + wrong[i] + other, i + 2, five.length() + offsets[i]);
                CHECK.list(five + RIVER + wrong[i] + RIVER + other, i + 2, five.length() + RIVER.length() + offsets[i]);
            }
        }
        CHECK.list("garden g sticks 100 grows 21 thick 0;", 5, 16);
        CHECK.list("garden g sticks 99 grows 21 thick 0;", 5, 25);
        CHECK.list("garden g sticks 99 grows 20 thick 0;", 5, 34);
        CHECK.list("peeler p of g to r skill 0;", 3, 12);
        CHECK.list(GARDEN + "peeler p of g to r skill 0;", 3, GARDEN.length() + 17);
        CHECK.list(RACK + "rack r holds 0;", 2, RACK.length() + 5);
        CHECK.list("shade 12 is 4;", 5, 6);
        CHECK.list("shade 11 is 4;", 5, 12);
        CHECK.list("boat b holds 41 speed 10;", 5, 13);
        CHECK.list("river 61 current 6;", 5, 6);
        CHECK.list(PLACE + "load x with mile y of first when blunt z;", 3, PLACE.length() + 5);
        CHECK.list(LOAD + "mile y of first when blunt z;", 3, LOAD.length() + 5);
        CHECK.list(LOAD + "mile b of first when blunt z;", 3, LOAD.length() + 27);
        String twenty = PLACE + "rest p when 1=1;".repeat(20);
        CHECK.list(twenty + "whet x when 1=1;", 4, twenty.length());
    }

    /** "Only if there is no error 1" */
    private static void errorOneAheadOfAll() {
        for (String wrong : new String[] {RACK + RACK, "whet x when 1=1;", "river 0 current 9;", RACK + "rack a holds 0;"}) {
            CHECK.list(wrong + "!", 1, wrong.length());
            CHECK.list(wrong + "river", 1, wrong.length() + 5);
            CHECK.list(wrong + RIVER.repeat(79) + "river", 1, wrong.length() + tokensUpTo400(wrong));
        }
    }

    /** How many bytes of the lines with five tokens each are taken until the 401st token. */
    private static int tokensUpTo400(String wrong) {
        int before = wrong.replaceAll("([;=])", " $1 ").trim().split(" +").length;
        int left = 400 - before;
        int[] within = {0, 6, 8, 16, 17};
        return left / 5 * RIVER.length() + within[left % 5];
    }

    /** "of errors at one token the one with the smallest number": 2 ahead of 4. */
    private static void theSmallestNumberAtOneToken() {
        String racks = lines("rack y", 4, " holds 1;");
        CHECK.list(racks + "rack y3 holds 1;", 2, racks.length() + 5);
        String gardens = lines("garden y", 4, " sticks 1 grows 1 thick 1;");
        CHECK.list(gardens + "garden y0 sticks 1 grows 1 thick 1;", 2, gardens.length() + 7);
        String peelers = GARDEN + RACK + lines("peeler y", 8, " of g to r skill 1;");
        CHECK.list(peelers + "peeler y7 of g to r skill 1;", 2, peelers.length() + 7);
        String boats = lines("boat y", 4, " holds 1 speed 1;");
        CHECK.list(boats + "boat y2 holds 1 speed 1;", 2, boats.length() + 5);
    }

    /** "are numbered from 0 in the order in which they are told" */
    private static void allAreNumberedFromNought() {
        QuillBoats x = Check.told("boat z holds 1 speed 2;rack z holds 3;garden z sticks 4 grows 5 thick 6;"
                + "boat a holds 7 speed 8;rack a holds 9;garden a sticks 10 grows 11 thick 9;"
                + "peeler z of a to z skill 1;peeler a of z to a skill 2;");
        CHECK.row("boat 0", what -> x.boat(0, what), 1, 2);
        CHECK.row("boat 1", what -> x.boat(1, what), 7, 8);
        CHECK.row("rack 0", what -> x.rack(0, what), 3, 3, 0, 1);
        CHECK.row("rack 1", what -> x.rack(1, what), 9, 9, 0, 1);
        CHECK.row("garden 0", what -> x.garden(0, what), 4, 5, 6, 1);
        CHECK.row("garden 1", what -> x.garden(1, what), 10, 11, 9, 1);
        CHECK.row("peeler 0", what -> x.peeler(0, what), 1, 0, 1, 20);
        CHECK.row("peeler 1", what -> x.peeler(1, what), 0, 1, 2, 20);
    }

    /** "Of several lines with river, with shade of the same hour, or with price of the same grade, the latest counts" */
    private static void theLatestLineCounts() {
        QuillBoats x = Check.told("river 1 current 5;river 60 current 0;river 2 current 3;shade 0 is 0;shade 11 is 3;"
                + "shade 0 is 2;price first 50;price fourth 7;price first 0;shade 11 is 0;price fourth 9;");
        CHECK.same("miles", x.count(13), 2);
        CHECK.same("current", x.count(14), 3);
        CHECK.row("shade", x::shade, 2, 1, 1, 1, 1, 1, 1, 1, 1, 1, 1, 0);
        CHECK.row("price of", grade -> x.grade(grade, 1), 0, 5, 3, 9);
        CHECK.row("price now of", grade -> x.grade(grade, 3), 0, 5, 3, 9);
    }

    /** "without them the river has 20 miles and a current of 1, the shade is 1 ..., and prices are 8, 5, 3 and 1" */
    private static void withoutThem() {
        for (String list : new String[] {"", PLACE, "shade 4 is 1;price second 5;"}) {
            QuillBoats x = Check.told(list);
            CHECK.same("miles", x.count(13), 20);
            CHECK.same("current", x.count(14), 1);
            CHECK.row("shade", x::shade, 1, 1, 1, 1, 1, 1, 1, 1, 1, 1, 1, 1);
            CHECK.row("price of", grade -> x.grade(grade, 1), 8, 5, 3, 1);
        }
    }
}

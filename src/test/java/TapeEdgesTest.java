import java.util.List;

/** The edges of promises 1 to 5, of the tape and of its tokens: each test stands for a sentence of the document. */
public final class TapeEdgesTest {
    private static final Check CHECK = new Check("TapeEdgesTest");
    private static final int BLANKS = 0x20202020;
    private static final String RIVER = "river 9 current 3;";
    private static final String PLACE = "garden g sticks 1 grows 1 thick 1;rack r holds 5;peeler p of g to r skill 1;"
            + "boat b holds 1 speed 1;";
    private static final String REST = PLACE + "rest p when ";
    private static final String[] KEYWORDS = ("garden sticks grows thick rack holds peeler of to skill boat speed river "
            + "current shade is price first second third fourth whet load with rest when hour coins edge room store "
            + "mile afloat blunt not and or min max").split(" ");

    public static void main(String[] args) {
        aNewObjectIsEmptyInHourNought();
        theTapeIsAtFirstEmpty();
        feedAppendsTwentyBytesTheHighestFirst();
        feedTakesUpTo2000Bytes();
        feedIsRefusedIfThereWouldBeMoreThan2000();
        all2000BytesAreRead();
        trimKeepsNoneUpToAll();
        trimIsRefusedOutsideOfThese();
        trimCutsTheLastBytes();
        teachReturnsNoughtOrTheErrorAndEmptiesTheTape();
        teachTakesThePlaceOfAllButTheHour();
        teachKnowsNothingOfWhatWasTriedOut();
        teachWithAnErrorChangesNothing();
        errorAtTellsOfTheLatestTeach();
        positionsAreCountedFromNoughtInBytes();
        blanksCanStandBetweenTokensAndAtTheEnds();
        noOtherByteIsABlank();
        bytesThatBeginNoToken();
        tokensThatWouldBeReadAsOne();
        theLongestPossibleTokenIsRead();
        aWordHasAtMostTenBytes();
        aWordBeginsWithALetter();
        aWordIsOfSmallLettersAndDigits();
        aNumberHasOneToSixDigits();
        keywordsAreNoNames();
        allOtherWordsAreNames();
        CHECK.end();
    }

    /** "Creates a river without gardens, racks, peelers and boats, in the hour 0." */
    private static void aNewObjectIsEmptyInHourNought() {
        QuillBoats x = new QuillBoats();
        CHECK.row("a new object: count", x::count, 0, 50, 0, 0, 0, 0, 0, 0, 0, 0, 0, 0, 0, 20, 1, 0);
        CHECK.row("a new object: shade", x::shade, 1, 1, 1, 1, 1, 1, 1, 1, 1, 1, 1, 1);
        for (int grade = 0; grade < 4; grade++) {
            int g = grade;
            int price = new int[] {8, 5, 3, 1}[grade];
            CHECK.row("a new object: grade " + g, what -> x.grade(g, what), 0, price, 0, price, 0);
        }
        CHECK.outOfBounds("a new object has no garden", () -> x.garden(0, 0));
        CHECK.outOfBounds("a new object has no rack", () -> x.rack(0, 0));
        CHECK.outOfBounds("a new object has no peeler", () -> x.peeler(0, 0));
        CHECK.outOfBounds("a new object has no boat", () -> x.boat(0, 0));
        QuillBoats other = new QuillBoats();
        x.pass(3);
        x.feed(1, 2, 3, 4, 5);
        x.setShade(0, 0);
        CHECK.same("one object knows nothing of another", Whole.of(other), Whole.of(new QuillBoats()));
    }

    /** "The tape is a row of at most 2000 bytes, at first empty". */
    private static void theTapeIsAtFirstEmpty() {
        QuillBoats x = new QuillBoats();
        CHECK.same("bytes of a new tape", x.count(15), 0);
        CHECK.same("a new tape read as a list", x.teach(), 0);
        CHECK.same("it has no error", x.errorAt(), -1);
    }

    /** "Appends twenty bytes to the tape: the four bytes of each number, the highest one first." */
    private static void feedAppendsTwentyBytesTheHighestFirst() {
        for (int place = 0; place < 20; place++) {
            for (int sign : new int[] {'!', 0xe9, 0xff, 0x80, 0}) {
                int[] numbers = {BLANKS, BLANKS, BLANKS, BLANKS, BLANKS};
                int shift = 24 - place % 4 * 8;
                numbers[place / 4] = numbers[place / 4] & ~(255 << shift) | sign << shift;
                QuillBoats x = new QuillBoats();
                x.feed(BLANKS, BLANKS, BLANKS, BLANKS, BLANKS);
                CHECK.same("the second feed", x.feed(numbers[0], numbers[1], numbers[2], numbers[3], numbers[4]), 40);
                CHECK.same("the byte " + sign + " at " + place + " of it", x.teach(), 1);
                CHECK.same("the place of this byte", x.errorAt(), 20 + place);
            }
        }
    }

    private static QuillBoats withBytes(int many) {
        QuillBoats x = new QuillBoats();
        for (int i = 0; i < (many + 19) / 20; i++) {
            x.feed(BLANKS, BLANKS, BLANKS, BLANKS, BLANKS);
        }
        x.trim(many);
        return x;
    }

    private static int feedBlanks(QuillBoats x) {
        return x.feed(BLANKS, BLANKS, BLANKS, BLANKS, BLANKS);
    }

    /** "Returns the number of bytes of the tape." */
    private static void feedTakesUpTo2000Bytes() {
        CHECK.same("feed to an empty tape", feedBlanks(withBytes(0)), 20);
        CHECK.same("feed to one byte", feedBlanks(withBytes(1)), 21);
        CHECK.same("feed to 1979 bytes", feedBlanks(withBytes(1979)), 1999);
        QuillBoats x = withBytes(1980);
        CHECK.same("feed to 1980 bytes", feedBlanks(x), 2000);
        CHECK.same("the whole tape", x.count(15), 2000);
    }

    /** "Throws IllegalStateException if there would be more than 2000". */
    private static void feedIsRefusedIfThereWouldBeMoreThan2000() {
        for (int many : new int[] {1981, 1982, 1999, 2000}) {
            Refusals refusals = new Refusals(CHECK, () -> withBytes(many));
            refusals.illegalState("feed to " + many + " bytes", x -> x.feed(0, 0, 0, 0, 0));
            refusals.illegalState("feed to " + many + " bytes", x -> x.feed(-1, -1, -1, -1, -1));
            refusals.illegalState("feed again to " + many + " bytes", x -> {
                Check.outcome(() -> x.feed(0, 0, 0, 0, 0));
                return x.feed(BLANKS, BLANKS, BLANKS, BLANKS, BLANKS);
            });
        }
        QuillBoats x = withBytes(2000);
        x.trim(1980);
        CHECK.same("behind a trim there is room again", feedBlanks(x), 2000);
        x.teach();
        CHECK.same("behind teach() too", feedBlanks(x), 20);
    }

    private static void all2000BytesAreRead() {
        String list = " ".repeat(2000 - RIVER.length()) + RIVER;
        CHECK.fine(list);
        CHECK.list(list.substring(0, 1999) + " ", 1, 2000);
        CHECK.list(list.substring(0, 1999), 1, 1999);
        CHECK.list(list.substring(0, 1999) + "!", 1, 1999);
        CHECK.list("\n".repeat(1999) + ";", 1, 1999);
        CHECK.fine("\n".repeat(2000));
        CHECK.list("a".repeat(2000), 1, 0);
        CHECK.list("1".repeat(2000), 1, 0);
        CHECK.list("river " + "0".repeat(1994), 1, 6);
        CHECK.list(" ".repeat(1999) + "\u00ff", 1, 1999);
    }

    /** "Shortens the tape to its first bytes. Returns n." */
    private static void trimKeepsNoneUpToAll() {
        for (int n : new int[] {0, 1, 2, 19, 20, 21, 39, 40}) {
            QuillBoats x = withBytes(40);
            CHECK.same("trim of 40 bytes", x.trim(n), n);
            CHECK.same("bytes behind it", x.count(15), n);
            CHECK.same("trim again", x.trim(n), n);
        }
        CHECK.same("trim(0) of an empty tape", new QuillBoats().trim(0), 0);
        CHECK.same("trim(2000) of a full tape", withBytes(2000).trim(2000), 2000);
        CHECK.same("trim(0) of a full tape", withBytes(2000).trim(0), 0);
    }

    /** "Throws IllegalArgumentException if n is not 0 to the number of bytes of the tape". */
    private static void trimIsRefusedOutsideOfThese() {
        for (int many : new int[] {0, 1, 18, 20, 2000}) {
            Refusals refusals = new Refusals(CHECK, () -> {
                QuillBoats x = withBytes(0);
                Check.write(x, (RIVER + " ".repeat(2000)).substring(0, many));
                return x;
            });
            for (int n : new int[] {-1, -2, -2000, Integer.MIN_VALUE, many + 1, many + 2, 2001, Integer.MAX_VALUE}) {
                refusals.illegalArgument("trim(" + n + ") of " + many + " bytes", x -> x.trim(n));
            }
        }
        QuillBoats x = withBytes(40);
        x.trim(7);
        CHECK.illegalArgument("a trim does not lengthen", () -> x.trim(8));
    }

    private static void trimCutsTheLastBytes() {
        for (int n = 0; n <= RIVER.length(); n++) {
            QuillBoats x = new QuillBoats();
            Check.write(x, RIVER);
            x.trim(n);
            boolean whole = n == 0 || n == RIVER.length();
            int cutWord = n < 5 ? 0 : n > 8 && n < 15 ? 8 : n;
            CHECK.same("teach() of the first " + n + " bytes", x.teach(), whole ? 0 : 1);
            CHECK.same("errorAt() of these", x.errorAt(), whole ? -1 : cutWord);
        }
    }

    /** "Returns 0, or the error, 1 to 5." "it is empty behind it" "(but the tape is empty)". */
    private static void teachReturnsNoughtOrTheErrorAndEmptiesTheTape() {
        String[] lists = {RIVER, "river", "rack r holds 1;rack r holds 1;", "whet p when 1=1;",
            "rack r holds 1;rack s holds 1;rack t holds 1;rack u holds 1;rack v holds 1;", "river 0 current 3;"};
        for (int error = 0; error < lists.length; error++) {
            QuillBoats x = new QuillBoats();
            CHECK.same("teach() of " + lists[error], Check.tell(x, lists[error]), error);
            CHECK.same("bytes of the tape behind it", x.count(15), 0);
            CHECK.illegalArgument("no byte is left", () -> x.trim(1));
            CHECK.same("an empty list behind it", x.teach(), 0);
            CHECK.same("feed behind it", feedBlanks(x), 20);
        }
    }

    private static final String LIVELY = "garden g sticks 40 grows 2 thick 1;garden h sticks 9 grows 1 thick 4;"
            + "rack r holds 20;rack s holds 9;peeler p of g to r skill 4;peeler q of h to s skill 3;"
            + "boat b holds 5 speed 5;boat c holds 3 speed 1;river 5 current 0;shade 3 is 2;price first 20;"
            + "load b with 9 of first when hour=4;whet p when edge p<15;rest q when hour=2;"
            + "load c with 2 of second when hour>7;";

    private static QuillBoats lively() {
        QuillBoats x = Check.told(LIVELY);
        x.pass(17);
        x.setCurrent(4);
        x.setShade(0, 3);
        x.grant(7);
        x.whet(1);
        return x;
    }

    /** "in the place of all that was told before; all begins anew, but the hour, which stays." */
    private static void teachTakesThePlaceOfAllButTheHour() {
        for (String list : new String[] {"", LIVELY, RIVER, "boat c holds 3 speed 1;", "rack r holds 60;"}) {
            for (int hours : new int[] {0, 1, 11, 12, 31}) {
                QuillBoats x = lively();
                QuillBoats fresh = new QuillBoats();
                if (hours > 0) {
                    x.pass(hours);
                }
                fresh.pass(17 + hours);
                CHECK.isTrue("much has been told and tried", Whole.of(x).length() > 200);
                CHECK.same("teach() behind another list", Check.tell(x, list), Check.tell(fresh, list));
                CHECK.same("the hour stays", x.count(0), 17 + hours);
                CHECK.same("all but the hour begins anew: " + list, Whole.of(x), Whole.of(fresh));
                CHECK.same("and goes on so", x.pass(30), fresh.pass(30));
                CHECK.same("all of it", Whole.of(x), Whole.of(fresh));
            }
        }
    }

    /** What was tried out ahead of it, at whatever hour it ended, is no part of what begins anew. */
    private static void teachKnowsNothingOfWhatWasTriedOut() {
        for (int hours = 1; hours <= 40; hours++) {
            for (String list : new String[] {"", LIVELY}) {
                QuillBoats x = lively();
                x.foresee(hours, 11);
                QuillBoats y = lively();
                y.advise(1, hours);
                QuillBoats fresh = new QuillBoats();
                fresh.pass(17);
                Check.tell(fresh, list);
                CHECK.same("teach() behind foresee()", Check.tell(x, list), 0);
                CHECK.same("all behind foresee(" + hours + ", 11)", x.digest(), fresh.digest());
                CHECK.same("teach() behind advise()", Check.tell(y, list), 0);
                CHECK.same("all behind advise(1, " + hours + ")", y.digest(), fresh.digest());
            }
        }
    }

    /** "If it has an error, all stays (but the tape is empty)." */
    private static void teachWithAnErrorChangesNothing() {
        String[] lists = {"river", RIVER + "!", LIVELY + LIVELY, LIVELY.replace("holds 9", "holds 0"),
            LIVELY + "rest z when 1=1;", LIVELY.repeat(3), "rack a holds 9;rack a holds 8;",
            "garden a sticks 100 grows 1 thick 1;", "boat a holds 9 speed 1;load a with 1 of first;load e with 1 of first;",
            "shade 3 is 0;shade 4 is 4;", "price first 0;price first 51;", "river 60 current 6;",
            "whet p when 1=1;".repeat(21)};
        for (String list : lists) {
            QuillBoats x = lively();
            QuillBoats twin = lively();
            CHECK.isTrue("an error of " + list, Check.tell(x, list) > 0);
            int place = x.errorAt();
            Check.tell(twin, "river");
            CHECK.same("orders and all stay", Whole.of(x).replaceAll("errorAt -?\\d+", ""),
                    Whole.of(twin).replaceAll("errorAt -?\\d+", ""));
            CHECK.same("the tape is empty", x.count(15), 0);
            CHECK.same("and go on so", x.pass(40), twin.pass(40));
            CHECK.same("all of it", x.digest(), twin.digest());
            CHECK.same("the place stays too", x.errorAt(), place);
        }
    }

    /** "Returns the position of the error of the latest teach(); -1 if it had none, or there was none." */
    private static void errorAtTellsOfTheLatestTeach() {
        QuillBoats x = new QuillBoats();
        CHECK.same("there was none", x.errorAt(), -1);
        Check.write(x, "  !");
        CHECK.same("feed is no teach()", x.errorAt(), -1);
        x.teach();
        CHECK.same("an error", x.errorAt(), 2);
        Check.write(x, "   !");
        CHECK.same("the latest is still the first", x.errorAt(), 2);
        Check.outcome(() -> x.trim(99));
        Check.outcome(() -> x.pass(0));
        CHECK.same("whatever is refused", x.errorAt(), 2);
        x.teach();
        CHECK.same("another error", x.errorAt(), 3);
        x.pass(1);
        CHECK.same("whatever goes by", x.errorAt(), 3);
        Check.tell(x, "!");
        CHECK.same("an error at 0", x.errorAt(), 0);
        Check.tell(x, RIVER);
        CHECK.same("the latest had none", x.errorAt(), -1);
    }

    /** "Positions of the tape are counted from 0, in bytes." */
    private static void positionsAreCountedFromNoughtInBytes() {
        for (int blanks = 0; blanks <= 40; blanks++) {
            CHECK.list("\n".repeat(blanks) + "!", 1, blanks);
            CHECK.list(" ".repeat(blanks) + "river 0 current 1;", 5, blanks + 6);
        }
    }

    /** "Blanks (32) and line ends (10) can stand between tokens, at the beginning and at the end". */
    private static void blanksCanStandBetweenTokensAndAtTheEnds() {
        for (String blank : new String[] {" ", "\n", "  ", "\n\n", " \n", "\n \n "}) {
            CHECK.fine(blank);
            CHECK.fine(blank + RIVER);
            CHECK.fine(RIVER + blank);
            CHECK.fine(RIVER.replace(" ", blank).replace(";", blank + ";"));
            CHECK.fine((REST + "not [ - ( 1 ) <= min ( 2 , 3 ) + 4 * 5 / 6 ] ; ").replace(" ", blank));
        }
        CHECK.fine(REST + "not[-(1)<=min(2,3)+4*5/6];");
    }

    /** Each byte between a word and a number, and between a number and a symbol. */
    private static void noOtherByteIsABlank() {
        for (int b = 0; b < 256; b++) {
            char sign = (char) b;
            boolean blank = b == ' ' || b == '\n';
            CHECK.list("river" + sign + "9 current 3;", blank ? 0 : 1, blank ? -1 : isOfWords(b) ? 0 : 5);
            int error = blank ? 0 : isDigit(b) ? 5 : 1;
            CHECK.list("river 9 current 3" + sign + ";", error, blank ? -1 : isDigit(b) ? 16 : b == ';' ? 18 : 17);
        }
    }

    private static boolean isDigit(int b) {
        return b >= '0' && b <= '9';
    }

    private static boolean isOfWords(int b) {
        return (b >= 'a' && b <= 'z') || isDigit(b);
    }

    /** "This includes a byte with which no token begins": each byte where a line can begin. */
    private static void bytesThatBeginNoToken() {
        for (int b = 0; b < 256; b++) {
            boolean blank = b == ' ' || b == '\n';
            CHECK.list(RIVER + (char) b, blank ? 0 : 1, blank ? -1 : RIVER.length());
            CHECK.list(REST + "1" + (char) b + "2;", "<>=".indexOf(b) >= 0 ? 0 : 1,
                    "<>=".indexOf(b) >= 0 ? -1 : behindOne((char) b));
        }
    }

    /** Where the first wrong token is, if the sign stands between 1 and 2. */
    private static int behindOne(char sign) {
        int one = REST.length();
        if (isDigit(sign) || "+-*/".indexOf(sign) >= 0) {
            return one + 3;
        }
        return sign == ' ' || sign == '\n' ? one + 2 : one + 1;
    }

    /** "have to stand between two tokens that would otherwise be read as one" */
    private static void tokensThatWouldBeReadAsOne() {
        CHECK.list("river9 current 3;", 1, 0);
        CHECK.list("riverx current 3;", 1, 0);
        CHECK.list("river 9 current3;", 1, 8);
        CHECK.fine("river 9current 3;");
        CHECK.list("boatb holds 1 speed 1;", 1, 0);
        CHECK.list("boat bholds 1 speed 1;", 1, 12);
        CHECK.list("boat b holds1 speed 1;", 1, 7);
        CHECK.fine("boat b holds 1speed 1;");
        CHECK.fine(REST + "1<=2;");
        CHECK.list(REST + "1< =2;", 1, REST.length() + 3);
        CHECK.list(REST + "1> =2;", 1, REST.length() + 3);
        CHECK.list("river 1 2 current 3;", 1, 8);
        CHECK.fine("river 12 current 3;");
        CHECK.fine(REST + "not 1=2;");
        CHECK.list(REST + "not1=2;", 1, REST.length());
        CHECK.fine(REST + "1=2and 1=2or 1=2;");
        CHECK.list(REST + "1=2 and1=2;", 1, REST.length() + 4);
    }

    /** "The longest possible token is always read." */
    private static void theLongestPossibleTokenIsRead() {
        CHECK.fine(REST + "1<-2;");
        CHECK.fine(REST + "1<=-2;");
        CHECK.list(REST + "1<==2;", 1, REST.length() + 3);
        CHECK.list(REST + "1>==2;", 1, REST.length() + 3);
        CHECK.list(REST + "1=<2;", 1, REST.length() + 2);
        CHECK.list(REST + "1=>2;", 1, REST.length() + 2);
        CHECK.list(REST + "1<>2;", 1, REST.length() + 2);
        CHECK.list(REST + "1==2;", 1, REST.length() + 2);
        CHECK.list(REST + "1<<2;", 1, REST.length() + 2);
        CHECK.list("boat of9 holds 1 speed 1;load of with 1 of first;", 1, 30);
        CHECK.fine("boat of9 holds 1 speed 1;load of9 with 1 of first;");
        CHECK.list("boat of9 holds 1 speed 1;load of9with 1 of first;", 1, 38);
        CHECK.list("rack hold holds 5;rack holds5 holds 5;rack holds 5;", 1, 43);
        CHECK.list("garden g1 sticks 1 grows 1 thick 1;rack r holds 1;peeler p of g 1 to r skill 1;", 1, 64);
    }

    /** "A word: ... at most 10 bytes" and "a word or number that is too long". */
    private static void aWordHasAtMostTenBytes() {
        String letters = "abcdefghijklmnopqrstuvwxyz";
        for (int length = 1; length <= 26; length++) {
            String word = letters.substring(0, length);
            CHECK.list("boat " + word + " holds 1 speed 1;", length <= 10 ? 0 : 1, length <= 10 ? -1 : 5);
            String mixed = ("z" + "9".repeat(25)).substring(0, length);
            CHECK.list("boat " + mixed + " holds 1 speed 1;", length <= 10 ? 0 : 1, length <= 10 ? -1 : 5);
            CHECK.list("boat " + word + " holds 1 speed 1;load " + word + " with mile " + word + " of first;",
                    length <= 10 ? 0 : 1, length <= 10 ? -1 : 5);
        }
        CHECK.list("riverriverr 9 current 3;", 1, 0);
        CHECK.list("rack r holds 1;boat abcdefghijk", 1, 20);
        CHECK.fine("boat abcdefghij holds 1 speed 1;boat abcdefghik holds 1 speed 1;boat bbcdefghij holds 1 speed 1;");
        CHECK.list("boat abcdefghij holds 1 speed 1;boat abcdefghij holds 1 speed 1;", 2, 37);
    }

    /** "A word: a letter a to z, followed by letters a to z and digits" */
    private static void aWordBeginsWithALetter() {
        for (char sign = '0'; sign <= '9'; sign++) {
            CHECK.list("boat " + sign + "b holds 1 speed 1;", 1, 5);
            CHECK.fine("boat b" + sign + " holds 1 speed 1;");
        }
        for (char sign = 'a'; sign <= 'z'; sign++) {
            CHECK.fine("boat " + sign + " holds 1 speed 1;");
            CHECK.fine("boat " + sign + "0" + sign + " holds 1 speed 1;");
        }
    }

    /** Each byte between two letters of a name. */
    private static void aWordIsOfSmallLettersAndDigits() {
        for (int b = 0; b < 256; b++) {
            boolean blank = b == ' ' || b == '\n';
            CHECK.list("boat x" + (char) b + "x holds 1 speed 1;", isOfWords(b) ? 0 : 1,
                    isOfWords(b) ? -1 : blank ? 7 : 6);
            boolean first = b >= 'a' && b <= 'z';
            CHECK.list("boat " + (char) b + "x holds 1 speed 1;", first || blank ? 0 : 1, first || blank ? -1 : 5);
        }
    }

    /** "A number: 1 to 6 digits." */
    private static void aNumberHasOneToSixDigits() {
        for (int length = 1; length <= 20; length++) {
            String zeros = "0".repeat(length - 1);
            CHECK.list("river " + zeros + "9 current 3;", length <= 6 ? 0 : 1, length <= 6 ? -1 : 6);
            CHECK.list(REST + zeros + "1=2;", length <= 6 ? 0 : 1, length <= 6 ? -1 : REST.length());
            CHECK.list(REST + "2=" + "9".repeat(length) + ";", length <= 6 ? 0 : 1,
                    length <= 6 ? -1 : REST.length() + 2);
        }
        QuillBoats x = Check.told("river 000060 current 000005;shade 000011 is 000003;price first 000050;");
        CHECK.same("zeros in front are no part of its value", x.count(13) * 1000 + x.count(14) * 100 + x.shade(11) * 10,
                60530);
        CHECK.same("a price with zeros in front", x.grade(0, 1), 50);
        CHECK.list("river 4294967305 current 3;", 1, 6);
        CHECK.list("river 9 current 4294967296;", 1, 16);
    }

    /** "The keywords are: ..." */
    private static void keywordsAreNoNames() {
        CHECK.same("keywords", KEYWORDS.length, 39);
        for (String keyword : KEYWORDS) {
            CHECK.list("boat " + keyword + " holds 1 speed 1;", 1, 5);
            CHECK.list(PLACE + "whet p when afloat " + keyword + ";", 1, PLACE.length() + 19);
        }
    }

    /** "All other words are names." */
    private static void allOtherWordsAreNames() {
        for (String keyword : KEYWORDS) {
            String cut = keyword.substring(0, keyword.length() - 1);
            String tail = keyword.substring(1);
            for (String name : new String[] {cut, tail, keyword + "s", keyword + "0", "x" + keyword,
                keyword.charAt(0) + keyword}) {
                boolean isKeyword = List.of(KEYWORDS).contains(name);
                CHECK.list("boat " + name + " holds 1 speed 1;", isKeyword ? 1 : 0, isKeyword ? 5 : -1);
            }
        }
        for (String name : new String[] {"a", "z", "zzzzzzzzzz", "a123456789", "fifth", "river1", "true", "digest"}) {
            CHECK.fine("boat " + name + " holds 1 speed 1;load " + name + " with 1 of first when afloat " + name + ";");
        }
    }
}

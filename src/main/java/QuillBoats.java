/** Cinnamon gardens on a river: a tape tells what there is, then hours go by and orders are carried out. */
public final class QuillBoats {
    private static final int MOST_BYTES = 2000;
    private static final int BYTES_OF_A_FEED = 20;
    private static final int MOST_TOKENS = 400;
    private static final int LONGEST_WORD = 10;
    private static final int LONGEST_NUMBER = 6;
    private static final int DEEPEST = 8;

    private static final int MOST_GARDENS = 4;
    private static final int MOST_RACKS = 4;
    private static final int MOST_PEELERS = 8;
    private static final int MOST_BOATS = 4;
    private static final int MOST_ORDERS = 20;
    private static final int MOST_BUNDLES = 60;
    private static final int MOST_STICKS = 99;
    private static final int MOST_QUILLS_OF_A_BOAT = 40;
    private static final int GRADES = 4;
    private static final int HOURS_OF_A_DAY = 12;
    private static final int MOST_SHADE = 3;
    private static final int MOST_CURRENT = 5;
    private static final int KEENEST = 20;
    private static final int KEEN = 10;
    private static final int COINS_OF_A_WHETTING = 2;
    private static final int FIRST_COINS = 50;
    private static final int MOST_COINS = 99999;
    private static final int MOST_COINS_OF_A_GRANT = 9999;

    private static final int LONGEST_PASS = 120;
    private static final int LONGEST_WAY = 150;
    private static final int LONGEST_DRYING = 300;
    private static final int LONGEST_ADVICE = 100;
    private static final int LONGEST_BEST = 60;

    private static final int LANDED = 0;
    private static final int UPWARD = 1;
    private static final int BACKWARD = 2;

    // The kind of a keyword is its place in KEYWORDS, from 1 on; the kinds below follow it.
    private static final String KEYWORDS = "garden sticks grows thick rack holds peeler of to skill boat speed river current shade is price first second third fourth whet load with rest when hour coins edge room store mile afloat blunt not and or min max";
    private static final int KEYWORD_COUNT = 39;
    private static final int GARDEN = 1, STICKS = 2, GROWS = 3, THICK = 4, RACK = 5, HOLDS = 6;
    private static final int PEELER = 7, OF = 8, TO = 9, SKILL = 10, BOAT = 11, SPEED = 12;
    private static final int RIVER = 13, CURRENT = 14, SHADE = 15, IS = 16, PRICE = 17;
    private static final int FIRST = 18, SECOND = 19, THIRD = 20, FOURTH = 21;
    private static final int WHET = 22, LOAD = 23, WITH = 24, REST = 25, WHEN = 26;
    private static final int HOUR = 27, COINS = 28, EDGE = 29, ROOM = 30, STORE = 31, MILE = 32;
    private static final int AFLOAT = 33, BLUNT = 34, NOT = 35, AND = 36, OR = 37, MIN = 38, MAX = 39;

    // The kind of a symbol of one sign is its place in SYMBOLS, from FIRST_SYMBOL on.
    private static final String SYMBOLS = "()[];,+-*/<>=";
    private static final int FIRST_SYMBOL = 40;
    private static final int OPEN = 40, CLOSE = 41, OPEN_TEST = 42, CLOSE_TEST = 43, SEMICOLON = 44, COMMA = 45;
    private static final int PLUS = 46, MINUS = 47, TIMES = 48, OVER = 49, LESS = 50, MORE = 51, EQUAL = 52;
    private static final int AT_MOST = 53, AT_LEAST = 54;

    private static final int NAME = 55, NUMBER = 56, END = 57, WRONG = 58;

    // Steps of the orders that are no token of their own.
    private static final int NEGATE = 59, ALWAYS = 60;

    private final byte[] tape = new byte[MOST_BYTES];
    private int tapeLength = 0;
    private int errorPlace = -1;
    private final Orders orders = new Orders();
    private final River now = new River();
    private final Names names = new Names();
    private final Grammar grammar = names.grammar;
    private final Tokens tokens = grammar.tokens;
    private final Orders draft = grammar.orders;
    // What is told is built here, and what would be is tried out here, so that nothing is made in a call.
    private final River spare = names.river;

    public QuillBoats() {
    }

    // ---- the language

    public int feed(int a, int b, int c, int d, int e) throws IllegalStateException {
        if (tapeLength + BYTES_OF_A_FEED > MOST_BYTES) {
            throw new IllegalStateException("the tape is full");
        }
        append(a);
        append(b);
        append(c);
        append(d);
        append(e);
        return tapeLength;
    }

    private void append(int fourBytes) {
        for (int shift = 24; shift >= 0; shift -= 8) {
            if (tapeLength >= 0 && tapeLength < tape.length) {
                tape[tapeLength] = (byte) (fourBytes >> shift);
                tapeLength++;
            }
        }
    }

    public int trim(int n) throws IllegalArgumentException {
        if (n < 0 || n > tapeLength) {
            throw new IllegalArgumentException("the tape has not so many bytes");
        }
        tapeLength = n;
        return n;
    }

    public int teach() {
        tokens.split(tape, tapeLength);
        tapeLength = 0;
        if (!grammar.readsList()) {
            errorPlace = tokens.startOf(grammar.place());
            return 1;
        }
        spare.beginAnew();
        int error = names.lookAtAll();
        if (error != 0) {
            errorPlace = tokens.startOf(names.place());
            return error;
        }
        takeWhatWasTold();
        errorPlace = -1;
        return 0;
    }

    private void takeWhatWasTold() {
        draft.resolve(tokens);
        orders.copyFrom(draft);
        spare.hour = now.hour;
        now.copyFrom(spare);
    }

    public int errorAt() {
        return errorPlace;
    }

    public int count(int what) throws IndexOutOfBoundsException {
        if (!isWithin(what, 0, 15)) {
            throw new IndexOutOfBoundsException("there is no such count");
        }
        return counted(what);
    }

    private int counted(int what) {
        return what == 15 ? tapeLength : now.total(what);
    }

    // ---- what there is

    public int garden(int garden, int what) throws IndexOutOfBoundsException {
        if (!now.hasGarden(garden) || !isWithin(what, 0, 3)) {
            throw new IndexOutOfBoundsException("there is no such garden, or nothing such of it");
        }
        return now.ofGarden(garden, what);
    }

    public int rack(int rack, int what) throws IndexOutOfBoundsException {
        if (!now.hasRack(rack) || !isWithin(what, 0, 3)) {
            throw new IndexOutOfBoundsException("there is no such rack, or nothing such of it");
        }
        return now.ofRack(rack, what);
    }

    public int bundle(int rack, int place, int what) throws IndexOutOfBoundsException {
        if (!now.hasBundle(rack, place) || !isWithin(what, 0, 4)) {
            throw new IndexOutOfBoundsException("there is no such bundle, or nothing such of it");
        }
        return now.ofBundle(rack, place, what);
    }

    public int dry(int rack, int place, int what) throws IndexOutOfBoundsException {
        if (!now.hasBundle(rack, place) || !isWithin(what, 0, 1)) {
            throw new IndexOutOfBoundsException("there is no such bundle, or nothing such of it");
        }
        return now.drying(rack, place, what);
    }

    public int peeler(int peeler, int what) throws IndexOutOfBoundsException {
        if (!now.hasPeeler(peeler) || !isWithin(what, 0, 5)) {
            throw new IndexOutOfBoundsException("there is no such peeler, or nothing such of one");
        }
        return now.ofPeeler(peeler, what);
    }

    public int boat(int boat, int what) throws IndexOutOfBoundsException {
        if (!now.hasBoat(boat) || !isWithin(what, 0, 6)) {
            throw new IndexOutOfBoundsException("there is no such boat, or nothing such of it");
        }
        return now.ofBoat(boat, what);
    }

    public int grade(int grade, int what) throws IndexOutOfBoundsException {
        if (!now.hasGrade(grade) || !isWithin(what, 0, 4)) {
            throw new IndexOutOfBoundsException("there is no such grade, or nothing such of it");
        }
        return now.ofGrade(grade, what);
    }

    public int shade(int hour) throws IndexOutOfBoundsException {
        if (!isWithin(hour, 0, HOURS_OF_A_DAY - 1)) {
            throw new IndexOutOfBoundsException("a day has no such hour");
        }
        return now.shades[hour];
    }

    public int worth(int grade, int many) throws IndexOutOfBoundsException, IllegalArgumentException {
        if (!now.hasGrade(grade)) {
            throw new IndexOutOfBoundsException("there is no such grade");
        }
        if (!isWithin(many, 1, MOST_QUILLS_OF_A_BOAT)) {
            throw new IllegalArgumentException("no boat holds so many");
        }
        return now.grades[grade].worthOf(many);
    }

    // ---- by hand

    public int whet(int peeler) throws IndexOutOfBoundsException, IllegalStateException {
        if (!now.hasPeeler(peeler)) {
            throw new IndexOutOfBoundsException("there is no such peeler");
        }
        if (!now.whetsKnife(peeler)) {
            throw new IllegalStateException("the knife is keen, or there are too few coins");
        }
        return now.coins;
    }

    public int load(int boat, int grade, int many)
            throws IndexOutOfBoundsException, IllegalArgumentException, IllegalStateException {
        if (!now.hasBoat(boat) || !now.hasGrade(grade)) {
            throw new IndexOutOfBoundsException("there is no such boat or grade");
        }
        if (!isWithin(many, 1, now.boats[boat].holds)) {
            throw new IllegalArgumentException("the boat does not hold so many");
        }
        int loaded = now.loadBoat(boat, grade, many);
        if (loaded < 1) {
            throw new IllegalStateException("the boat is afloat, or there are no such quills");
        }
        return loaded;
    }

    public int setShade(int hour, int shade) throws IndexOutOfBoundsException, IllegalArgumentException {
        if (!isWithin(hour, 0, HOURS_OF_A_DAY - 1)) {
            throw new IndexOutOfBoundsException("a day has no such hour");
        }
        if (!isWithin(shade, 0, MOST_SHADE)) {
            throw new IllegalArgumentException("there is no such shade");
        }
        int before = now.shades[hour];
        now.shades[hour] = shade;
        return before;
    }

    public int setCurrent(int current) throws IllegalArgumentException {
        if (!isWithin(current, 0, MOST_CURRENT)) {
            throw new IllegalArgumentException("there is no such current");
        }
        int before = now.current;
        now.current = current;
        return before;
    }

    public int grant(int coins) throws IllegalArgumentException {
        if (!isWithin(coins, 1, MOST_COINS_OF_A_GRANT)) {
            throw new IllegalArgumentException("so many coins are not granted");
        }
        now.coins = Math.min(MOST_COINS, now.coins + coins);
        return now.coins;
    }

    // ---- hours

    public int pass(int hours) throws IllegalArgumentException {
        if (!isWithin(hours, 1, LONGEST_PASS)) {
            throw new IllegalArgumentException("so many hours do not go by at once");
        }
        int before = now.peeled;
        letHoursGo(now, hours);
        return now.peeled - before;
    }

    private void letHoursGo(River river, int hours) {
        for (int i = 0; i < hours; i++) {
            river.letHourGo(orders);
        }
    }

    // ---- what would be

    public int until(int boat) throws IndexOutOfBoundsException {
        if (!now.hasBoat(boat)) {
            throw new IndexOutOfBoundsException("there is no such boat");
        }
        Boat tried = spare.boats[boat];
        tried.copyFrom(now.boats[boat]);
        for (int hours = 0; hours <= LONGEST_WAY; hours++) {
            if (tried.way == LANDED) {
                return hours;
            }
            tried.comesToMarket(now.miles, now.current);
        }
        return -1;
    }

    public int foresee(int hours, int what) throws IllegalArgumentException, IndexOutOfBoundsException {
        if (!isWithin(hours, 1, LONGEST_PASS)) {
            throw new IllegalArgumentException("so many hours are not foreseen");
        }
        if (what != 1 && !isWithin(what, 7, 12)) {
            throw new IndexOutOfBoundsException("this is not foreseen");
        }
        spare.copyFrom(now);
        letHoursGo(spare, hours);
        return spare.total(what);
    }

    public int advise(int boat, int hours) throws IndexOutOfBoundsException, IllegalArgumentException {
        if (!now.hasBoat(boat)) {
            throw new IndexOutOfBoundsException("there is no such boat");
        }
        if (!isWithin(hours, 1, LONGEST_ADVICE)) {
            throw new IllegalArgumentException("there is no advice for so many hours");
        }
        spare.copyFrom(now);
        letHoursGo(spare, hours);
        int most = spare.coins;
        int found = -1;
        for (int grade = 0; grade < GRADES; grade++) {
            spare.copyFrom(now);
            if (spare.loadBoat(boat, grade, MOST_QUILLS_OF_A_BOAT) > 0) {
                letHoursGo(spare, hours);
                if (spare.coins > most) {
                    most = spare.coins;
                    found = grade;
                }
            }
        }
        return found;
    }

    public int best(int hours) throws IllegalArgumentException {
        if (!isWithin(hours, 1, LONGEST_BEST)) {
            throw new IllegalArgumentException("so many hours are not looked at");
        }
        spare.copyFrom(now);
        letHoursGo(spare, hours);
        int most = spare.peeled;
        int found = -1;
        for (int peeler = 0; peeler < now.peelerCount && peeler < MOST_PEELERS; peeler++) {
            spare.copyFrom(now);
            if (spare.whetsKnife(peeler)) {
                letHoursGo(spare, hours);
                if (spare.peeled > most) {
                    most = spare.peeled;
                    found = peeler;
                }
            }
        }
        return found;
    }

    public double mean() {
        int edges = 0;
        for (int i = 0; i < now.peelerCount && i < MOST_PEELERS; i++) {
            edges += now.peelers[i].edge;
        }
        return now.peelerCount > 0 ? (double) edges / (double) now.peelerCount : 0.0;
    }

    public long digest() {
        long d = 1571;
        for (int what = 0; what <= 15; what++) {
            d = d * 31 + counted(what);
        }
        for (int hour = 0; hour < HOURS_OF_A_DAY; hour++) {
            d = d * 31 + now.shades[hour];
        }
        for (int i = 0; i < now.gardenCount && i < MOST_GARDENS; i++) {
            for (int what = 0; what <= 3; what++) {
                d = d * 31 + now.ofGarden(i, what);
            }
        }
        for (int i = 0; i < now.rackCount && i < MOST_RACKS; i++) {
            d = withRack(d, i);
        }
        for (int i = 0; i < now.peelerCount && i < MOST_PEELERS; i++) {
            for (int what = 0; what <= 5; what++) {
                d = d * 31 + now.ofPeeler(i, what);
            }
        }
        for (int i = 0; i < now.boatCount && i < MOST_BOATS; i++) {
            for (int what = 0; what <= 6; what++) {
                d = d * 31 + now.ofBoat(i, what);
            }
        }
        for (int i = 0; i < GRADES; i++) {
            for (int what = 0; what <= 4; what++) {
                d = d * 31 + now.ofGrade(i, what);
            }
        }
        return d;
    }

    private long withRack(long before, int rack) {
        long d = before;
        for (int what = 0; what <= 3; what++) {
            d = d * 31 + now.ofRack(rack, what);
        }
        int bundles = now.ofRack(rack, 2);
        for (int place = 0; place < bundles; place++) {
            for (int what = 0; what <= 4; what++) {
                d = d * 31 + now.ofBundle(rack, place, what);
            }
        }
        return d;
    }

    private static boolean isWithin(int number, int least, int most) {
        return number >= least && number <= most;
    }

    /** The tape as a row of tokens; the last is the end of the tape, or one that is wrong. */
    private static final class Tokens {
        private final long[] keywords = new long[KEYWORD_COUNT];
        private final int[] kinds = new int[MOST_TOKENS + 1];
        private final int[] starts = new int[MOST_TOKENS + 1];
        // Of a number its value; of a grade or a name which one it is, as soon as Names has looked at it.
        private final int[] numbers = new int[MOST_TOKENS + 1];
        private final long[] words = new long[MOST_TOKENS + 1];
        private int count = 0;

        Tokens() {
            int keyword = 0;
            long word = 0;
            for (int i = 0; i < KEYWORDS.length() && keyword < keywords.length; i++) {
                char sign = KEYWORDS.charAt(i);
                word = sign == ' ' ? 0 : joined(word, sign);
                keyword = sign == ' ' ? keyword + 1 : keyword;
                if (keyword < keywords.length) {
                    keywords[keyword] = word;
                }
            }
        }

        /** A word as one number: six bits for each of its signs. */
        private static long joined(long word, int sign) {
            return (word << 6) + (isDigit(sign) ? sign - '0' + 27 : sign - 'a' + 1);
        }

        private static boolean isDigit(int sign) {
            return sign >= '0' && sign <= '9';
        }

        private static boolean isLetter(int sign) {
            return sign >= 'a' && sign <= 'z';
        }

        void split(byte[] tape, int length) {
            int end = Math.min(length, tape.length);
            int at = 0;
            count = 0;
            for (int i = 0; i < kinds.length; i++) {
                at = behindBlanks(tape, end, at);
                starts[i] = at;
                at = i < MOST_TOKENS ? behindToken(tape, end, at, i) : behindLast(end, at, i);
                if (kinds[i] == END || kinds[i] == WRONG) {
                    return;
                }
                count = i + 1;
            }
        }

        private static int behindBlanks(byte[] tape, int end, int start) {
            for (int at = start; at < end; at++) {
                if (at < 0 || at >= tape.length || (tape[at] != ' ' && tape[at] != '\n')) {
                    return at;
                }
            }
            return Math.max(start, end);
        }

        /** One token more than there may be is wrong; the end of the tape is none. */
        private int behindLast(int end, int start, int i) {
            put(i, start >= end ? END : WRONG);
            return start;
        }

        private int behindToken(byte[] tape, int end, int start, int i) {
            int sign = signAt(tape, end, start);
            if (start >= end) {
                put(i, END);
                return start;
            }
            if (isLetter(sign)) {
                return behindWord(tape, end, start, i);
            }
            if (isDigit(sign)) {
                return behindNumber(tape, end, start, i);
            }
            boolean orEqual = (sign == '<' || sign == '>') && signAt(tape, end, start + 1) == '=';
            if (orEqual) {
                put(i, sign == '<' ? AT_MOST : AT_LEAST);
                return start + 2;
            }
            int symbol = SYMBOLS.indexOf((char) sign);
            put(i, symbol < 0 ? WRONG : FIRST_SYMBOL + symbol);
            return start + 1;
        }

        /** The byte there, from 0 to 255, or 0 behind the end. */
        private static int signAt(byte[] tape, int end, int at) {
            return at >= 0 && at < end && at < tape.length ? tape[at] & 255 : 0;
        }

        private int behindWord(byte[] tape, int end, int start, int i) {
            long word = 0;
            int at = start;
            for (; at < end; at++) {
                int sign = signAt(tape, end, at);
                if (!isLetter(sign) && !isDigit(sign)) {
                    break;
                }
                word = joined(word, sign);
            }
            put(i, at - start > LONGEST_WORD ? WRONG : kindOf(word));
            if (i >= 0 && i < words.length) {
                words[i] = word;
            }
            return at;
        }

        private int kindOf(long word) {
            for (int i = 0; i < keywords.length; i++) {
                if (keywords[i] == word) {
                    return i + 1;
                }
            }
            return NAME;
        }

        private int behindNumber(byte[] tape, int end, int start, int i) {
            int value = 0;
            int at = start;
            for (; at < end; at++) {
                int sign = signAt(tape, end, at);
                if (!isDigit(sign)) {
                    break;
                }
                value = value * 10 + sign - '0';
            }
            put(i, at - start > LONGEST_NUMBER ? WRONG : NUMBER);
            setNumber(i, value);
            return at;
        }

        private void put(int i, int kind) {
            if (i >= 0 && i < kinds.length) {
                kinds[i] = kind;
            }
        }

        /** Behind the last token there is its end again. */
        int kindOf(int i) {
            return i >= 0 && i < kinds.length && i <= count ? kinds[i] : END;
        }

        int startOf(int i) {
            return i >= 0 && i < starts.length ? starts[i] : 0;
        }

        int numberOf(int i) {
            return i >= 0 && i < numbers.length ? numbers[i] : 0;
        }

        void setNumber(int i, int number) {
            if (i >= 0 && i < numbers.length) {
                numbers[i] = number;
            }
        }

        long wordOf(int i) {
            return i >= 0 && i < words.length ? words[i] : 0;
        }
    }

    /** Reads the tokens as a list, and writes down the steps of its orders. */
    private static final class Grammar {
        final Tokens tokens = new Tokens();
        final Orders orders = new Orders();
        private int at = 0;
        private int next = END;

        Grammar() {
        }

        /** The token that is to be read next: if a list is not read, the first that is wrong. */
        int place() {
            return at;
        }

        boolean readsList() {
            at = 0;
            next = tokens.kindOf(at);
            orders.clear();
            for (int line = 0; line <= MOST_TOKENS; line++) {
                if (next == END) {
                    return true;
                }
                if (!readsLine() || !reads(SEMICOLON)) {
                    return false;
                }
            }
            return false;
        }

        private boolean reads(int kind) {
            if (next != kind) {
                return false;
            }
            at++;
            next = tokens.kindOf(at);
            return true;
        }

        private static boolean isGrade(int kind) {
            return kind == FIRST || kind == SECOND || kind == THIRD || kind == FOURTH;
        }

        private boolean readsNumberOf(int keyword) {
            return reads(keyword) && reads(NUMBER);
        }

        private boolean readsNameOf(int keyword) {
            return reads(keyword) && reads(NAME);
        }

        private boolean readsLine() {
            switch (next) {
                case GARDEN:
                    return readsNameOf(GARDEN) && readsNumberOf(STICKS) && readsNumberOf(GROWS)
                            && readsNumberOf(THICK);
                case RACK:
                    return readsNameOf(RACK) && readsNumberOf(HOLDS);
                case PEELER:
                    return readsNameOf(PEELER) && readsNameOf(OF) && readsNameOf(TO) && readsNumberOf(SKILL);
                case BOAT:
                    return readsNameOf(BOAT) && readsNumberOf(HOLDS) && readsNumberOf(SPEED);
                case RIVER:
                    return readsNumberOf(RIVER) && readsNumberOf(CURRENT);
                case SHADE:
                    return readsNumberOf(SHADE) && readsNumberOf(IS);
                case PRICE:
                    return reads(PRICE) && isGrade(next) && reads(next) && reads(NUMBER);
                case WHET:
                    return readsOrderWithTest(WHET);
                case LOAD:
                    return readsLoading();
                case REST:
                    return readsOrderWithTest(REST);
                default:
                    return false;
            }
        }

        private boolean readsOrderWithTest(int kind) {
            int name = at + 1;
            if (!readsNameOf(kind) || !reads(WHEN) || !readsTest(0)) {
                return false;
            }
            orders.add(kind, name);
            return true;
        }

        private boolean readsLoading() {
            int name = at + 1;
            if (!readsNameOf(LOAD) || !reads(WITH) || !readsSum(0) || !reads(OF)) {
                return false;
            }
            orders.add(NUMBER, at);
            if (!isGrade(next) || !reads(next)) {
                return false;
            }
            if (!reads(WHEN)) {
                orders.add(ALWAYS, at);
            } else if (!readsTest(0)) {
                return false;
            }
            orders.add(LOAD, name);
            return true;
        }

        private boolean readsTest(int depth) {
            if (!readsBoth(depth)) {
                return false;
            }
            for (int i = 0; i < MOST_TOKENS && reads(OR); i++) {
                if (!readsBoth(depth)) {
                    return false;
                }
                orders.add(OR, at);
            }
            return true;
        }

        private boolean readsBoth(int depth) {
            if (!readsSingle(depth)) {
                return false;
            }
            for (int i = 0; i < MOST_TOKENS && reads(AND); i++) {
                if (!readsSingle(depth)) {
                    return false;
                }
                orders.add(AND, at);
            }
            return true;
        }

        private boolean readsSingle(int depth) {
            switch (next) {
                case NOT:
                    if (!mayGoDeeper(depth) || !reads(NOT) || !readsSingle(depth + 1)) {
                        return false;
                    }
                    orders.add(NOT, at);
                    return true;
                case OPEN_TEST:
                    return mayGoDeeper(depth) && reads(OPEN_TEST) && readsTest(depth + 1) && reads(CLOSE_TEST);
                case AFLOAT:
                case BLUNT:
                    orders.add(next, at + 1);
                    return reads(next) && reads(NAME);
                default:
                    break;
            }
            if (!readsSum(depth)) {
                return false;
            }
            int comparison = next;
            if (!isComparison(comparison) || !reads(comparison) || !readsSum(depth)) {
                return false;
            }
            orders.add(comparison, at);
            return true;
        }

        /** Where it may not, the token that would lead too deep is the wrong one: it is not read. */
        private static boolean mayGoDeeper(int depth) {
            return depth < DEEPEST;
        }

        private static boolean isComparison(int kind) {
            return kind == LESS || kind == MORE || kind == EQUAL || kind == AT_MOST || kind == AT_LEAST;
        }

        private boolean readsSum(int depth) {
            if (!readsProduct(depth)) {
                return false;
            }
            for (int i = 0; i < MOST_TOKENS && (next == PLUS || next == MINUS); i++) {
                int sign = next;
                if (!reads(sign) || !readsProduct(depth)) {
                    return false;
                }
                orders.add(sign, at);
            }
            return true;
        }

        private boolean readsProduct(int depth) {
            if (!readsValue(depth)) {
                return false;
            }
            for (int i = 0; i < MOST_TOKENS && (next == TIMES || next == OVER); i++) {
                int sign = next;
                if (!reads(sign) || !readsValue(depth)) {
                    return false;
                }
                orders.add(sign, at);
            }
            return true;
        }

        private boolean readsValue(int depth) {
            int kind = next;
            switch (kind) {
                case NUMBER:
                case HOUR:
                case COINS:
                    orders.add(kind, at);
                    return reads(kind);
                case STICKS:
                case EDGE:
                case ROOM:
                case MILE:
                    orders.add(kind, at + 1);
                    return reads(kind) && reads(NAME);
                case STORE:
                case PRICE:
                    orders.add(kind, at + 1);
                    return reads(kind) && isGrade(next) && reads(next);
                case MINUS:
                    if (!mayGoDeeper(depth) || !reads(MINUS) || !readsValue(depth + 1)) {
                        return false;
                    }
                    orders.add(NEGATE, at);
                    return true;
                case OPEN:
                    return mayGoDeeper(depth) && reads(OPEN) && readsSum(depth + 1) && reads(CLOSE);
                case MIN:
                case MAX:
                    return readsChoice(kind, depth);
                default:
                    return false;
            }
        }

        private boolean readsChoice(int kind, int depth) {
            if (!reads(kind) || !mayGoDeeper(depth) || !reads(OPEN) || !readsSum(depth + 1)) {
                return false;
            }
            if (!reads(COMMA) || !readsSum(depth + 1) || !reads(CLOSE)) {
                return false;
            }
            orders.add(kind, at);
            return true;
        }
    }

    /** Looks at keywords, names and numbers from left to right, and builds the river that they tell of. */
    private static final class Names {
        final Grammar grammar = new Grammar();
        private final Tokens tokens = grammar.tokens;
        final River river = new River();
        private final Roll gardens = new Roll(MOST_GARDENS);
        private final Roll racks = new Roll(MOST_RACKS);
        private final Roll peelers = new Roll(MOST_PEELERS);
        private final Roll boats = new Roll(MOST_BOATS);
        private int at = 0;

        Names() {
        }

        /** The token that was looked at last: the one with the error, if there is one. */
        int place() {
            return at;
        }

        /** Answers 0, or the first error, 2 to 5. */
        int lookAtAll() {
            gardens.clear();
            racks.clear();
            peelers.clear();
            boats.clear();
            for (int i = 0; i < MOST_TOKENS && tokens.kindOf(i) != END; i++) {
                at = i;
                int error = lookAt(tokens.kindOf(i));
                if (error != 0) {
                    return error;
                }
            }
            return 0;
        }

        private int lookAt(int kind) {
            switch (kind) {
                case NAME:
                    return lookAtName(tokens.kindOf(at - 1));
                case NUMBER:
                    return lookAtNumber(tokens.kindOf(at - 1), tokens.numberOf(at));
                case WHET:
                case LOAD:
                case REST:
                    river.orderCount++;
                    return river.orderCount > MOST_ORDERS ? 4 : 0;
                case FIRST:
                case SECOND:
                case THIRD:
                case FOURTH:
                    tokens.setNumber(at, kind - FIRST);
                    return 0;
                default:
                    return 0;
            }
        }

        private int lookAtName(int before) {
            switch (before) {
                case GARDEN:
                    return addName(gardens, GARDEN);
                case RACK:
                    return addName(racks, RACK);
                case PEELER:
                    return addName(peelers, PEELER);
                case BOAT:
                    return addName(boats, BOAT);
                case OF:
                    return setGardenOfPeeler();
                case TO:
                    return setRackOfPeeler();
                case STICKS:
                    return findName(gardens);
                case ROOM:
                    return findName(racks);
                case WHET:
                case REST:
                case EDGE:
                case BLUNT:
                    return findName(peelers);
                default:
                    return findName(boats);
            }
        }

        private int addName(Roll roll, int kind) {
            if (roll.placeOf(tokens.wordOf(at)) >= 0) {
                return 2;
            }
            if (!roll.takes(tokens.wordOf(at))) {
                return 4;
            }
            river.addOne(kind);
            return 0;
        }

        private int findName(Roll roll) {
            int place = roll.placeOf(tokens.wordOf(at));
            tokens.setNumber(at, place);
            return place < 0 ? 3 : 0;
        }

        private int setGardenOfPeeler() {
            int error = findName(gardens);
            river.latestPeeler().garden = tokens.numberOf(at);
            return error;
        }

        private int setRackOfPeeler() {
            int error = findName(racks);
            river.latestPeeler().rack = tokens.numberOf(at);
            return error;
        }

        private int lookAtNumber(int before, int number) {
            switch (before) {
                case STICKS:
                    river.latestGarden().sticks = number;
                    return errorOutside(0, MOST_STICKS);
                case GROWS:
                    river.latestGarden().grows = number;
                    return errorOutside(0, 20);
                case THICK:
                    river.latestGarden().thick = number;
                    return errorOutside(1, 9);
                case HOLDS:
                    return setHolds(number);
                case SKILL:
                    river.latestPeeler().skill = number;
                    return errorOutside(1, 9);
                case SPEED:
                    river.latestBoat().speed = number;
                    return errorOutside(1, 9);
                case RIVER:
                    river.miles = number;
                    return errorOutside(1, 60);
                case CURRENT:
                    river.current = number;
                    return errorOutside(0, MOST_CURRENT);
                case SHADE:
                    return errorOutside(0, HOURS_OF_A_DAY - 1);
                case IS:
                    river.setShadeOf(tokens.numberOf(at - 2), number);
                    return errorOutside(0, MOST_SHADE);
                case FIRST:
                case SECOND:
                case THIRD:
                case FOURTH:
                    river.grades[before - FIRST].told = number;
                    return errorOutside(0, 50);
                default:
                    return 0;
            }
        }

        private int setHolds(int number) {
            if (tokens.kindOf(at - 3) == RACK) {
                river.latestRack().holds = number;
                return errorOutside(1, MOST_BUNDLES);
            }
            river.latestBoat().holds = number;
            return errorOutside(1, MOST_QUILLS_OF_A_BOAT);
        }

        private int errorOutside(int least, int most) {
            return isWithin(tokens.numberOf(at), least, most) ? 0 : 5;
        }
    }

    /** The names of one kind in the order in which they are told, as many as there may be. */
    private static final class Roll {
        private final long[] words;
        private int count = 0;

        Roll(int most) {
            words = new long[Math.max(0, most)];
        }

        void clear() {
            count = 0;
        }

        boolean takes(long word) {
            if (count < 0 || count >= words.length) {
                return false;
            }
            words[count] = word;
            count++;
            return true;
        }

        /** Answers -1 if the name was not told. */
        int placeOf(long word) {
            for (int i = 0; i < count && i < words.length; i++) {
                if (words[i] == word) {
                    return i;
                }
            }
            return -1;
        }
    }

    /** All orders as one row of steps over a stack: what a step needs was pushed by those before it. */
    private static final class Orders {
        private final int[] kinds = new int[MOST_TOKENS];
        private final int[] numbers = new int[MOST_TOKENS];
        private int length = 0;
        private final int[] stack = new int[MOST_TOKENS];
        private int height = 0;

        Orders() {
        }

        void clear() {
            length = 0;
        }

        /** A step is added with the token that tells its number; a token gives no more than one step. */
        void add(int kind, int token) {
            if (length >= 0 && length < kinds.length && length < numbers.length) {
                kinds[length] = kind;
                numbers[length] = token;
                length++;
            }
        }

        void resolve(Tokens tokens) {
            for (int i = 0; i < length && i < numbers.length; i++) {
                numbers[i] = tokens.numberOf(numbers[i]);
            }
        }

        void copyFrom(Orders other) {
            length = other.length;
            for (int i = 0; i < length && i < kinds.length && i < numbers.length; i++) {
                kinds[i] = other.kinds[i];
                numbers[i] = other.numbers[i];
            }
        }

        void carryOut(River river) {
            height = 0;
            for (int i = 0; i < length && i < kinds.length && i < numbers.length; i++) {
                take(kinds[i], numbers[i], river);
            }
        }

        private void push(int number) {
            if (height >= 0 && height < stack.length) {
                stack[height] = number;
                height++;
            }
        }

        private int pop() {
            if (height < 1 || height > stack.length) {
                return 0;
            }
            height--;
            return stack[height];
        }

        private void take(int kind, int number, River river) {
            switch (kind) {
                case WHET:
                    whetByOrder(number, river);
                    break;
                case LOAD:
                    loadByOrder(number, river);
                    break;
                case REST:
                    restByOrder(number, river);
                    break;
                case NUMBER:
                    push(number);
                    break;
                case ALWAYS:
                    push(1);
                    break;
                case NEGATE:
                    push(-pop());
                    break;
                case NOT:
                    push(pop() == 0 ? 1 : 0);
                    break;
                default:
                    if (joinsTwo(kind)) {
                        int right = pop();
                        push(join(kind, pop(), right));
                    } else {
                        push(river.told(kind, number));
                    }
            }
        }

        private void whetByOrder(int peeler, River river) {
            boolean holds = pop() != 0;
            if (holds && river.hasPeeler(peeler) && river.whetsKnife(peeler)) {
                river.carried++;
            }
        }

        private void loadByOrder(int boat, River river) {
            boolean holds = pop() != 0;
            int grade = pop();
            int many = pop();
            if (holds && river.hasBoat(boat) && river.hasGrade(grade) && river.loadBoat(boat, grade, many) > 0) {
                river.carried++;
            }
        }

        private void restByOrder(int peeler, River river) {
            boolean holds = pop() != 0;
            if (holds && river.hasPeeler(peeler)) {
                river.peelers[peeler].resting = true;
                river.carried++;
            }
        }

        private static boolean joinsTwo(int kind) {
            return (kind >= PLUS && kind <= AT_LEAST) || (kind >= AND && kind <= MAX);
        }

        private static int join(int kind, int left, int right) {
            switch (kind) {
                case PLUS:
                    return left + right;
                case MINUS:
                    return left - right;
                case TIMES:
                    return left * right;
                case OVER:
                    return right == 0 ? 0 : left / right;
                case MIN:
                    return Math.min(left, right);
                case MAX:
                    return Math.max(left, right);
                default:
                    return holds(kind, left, right) ? 1 : 0;
            }
        }

        private static boolean holds(int kind, int left, int right) {
            switch (kind) {
                case LESS:
                    return left < right;
                case MORE:
                    return left > right;
                case EQUAL:
                    return left == right;
                case AT_MOST:
                    return left <= right;
                case AT_LEAST:
                    return left >= right;
                case AND:
                    return left != 0 && right != 0;
                case OR:
                    return left != 0 || right != 0;
                default:
                    return false;
            }
        }
    }

    private static final class Garden {
        int sticks = 0;
        int grows = 0;
        int thick = 1;

        Garden() {
        }

        void copyFrom(Garden other) {
            sticks = other.sticks;
            grows = other.grows;
            thick = other.thick;
        }
    }

    private static final class Rack {
        int holds = 0;
        private int lying = 0;
        private int count = 0;
        private final int[] quills = new int[MOST_BUNDLES];
        private final int[] thick = new int[MOST_BUNDLES];
        private final int[] dried = new int[MOST_BUNDLES];
        private final int[] sun = new int[MOST_BUNDLES];

        Rack() {
        }

        void clear() {
            lying = 0;
            count = 0;
        }

        void copyFrom(Rack other) {
            holds = other.holds;
            lying = other.lying;
            count = other.count;
            for (int i = 0; i < count && i < MOST_BUNDLES; i++) {
                quills[i] = other.quills[i];
                thick[i] = other.thick[i];
                dried[i] = other.dried[i];
                sun[i] = other.sun[i];
            }
        }

        int bundles() {
            return count;
        }

        int lyingQuills() {
            return lying;
        }

        int free() {
            return holds - lying;
        }

        void lay(int many, int howThick) {
            if (count < 0 || count >= MOST_BUNDLES) {
                return;
            }
            quills[count] = many;
            thick[count] = howThick;
            dried[count] = 0;
            sun[count] = 0;
            count++;
            lying += many;
        }

        int tell(int place, int what) {
            if (place < 0 || place >= count || place >= MOST_BUNDLES) {
                return 0;
            }
            switch (what) {
                case 0:
                    return quills[place];
                case 1:
                    return thick[place];
                case 2:
                    return dried[place];
                case 3:
                    return sun[place];
                default:
                    return gradeOf(thick[place], sun[place]);
            }
        }

        static int gradeOf(int thick, int sun) {
            return Math.min(GRADES - 1, Math.max(0, (thick - 1) / 3 + sun / 3));
        }

        static boolean isDry(int thick, int dried) {
            return dried >= 3 * thick;
        }

        void letDry(int shade, Grade[] grades) {
            int kept = 0;
            for (int i = 0; i < count && i < MOST_BUNDLES; i++) {
                if (shade == 0) {
                    sun[i]++;
                } else {
                    dried[i] += shade;
                }
                if (isDry(thick[i], dried[i])) {
                    storeAt(i, grades);
                } else {
                    moveTo(kept, i);
                    kept++;
                }
            }
            count = kept;
        }

        private void storeAt(int i, Grade[] grades) {
            int grade = gradeOf(thick[i], sun[i]);
            if (grade >= 0 && grade < grades.length) {
                grades[grade].store += quills[i];
            }
            lying -= quills[i];
        }

        private void moveTo(int place, int i) {
            quills[place] = quills[i];
            thick[place] = thick[i];
            dried[place] = dried[i];
            sun[place] = sun[i];
        }
    }

    private static final class Peeler {
        int garden = 0;
        int rack = 0;
        int skill = 0;
        int edge = KEENEST;
        int peeled = 0;
        int whetted = 0;
        boolean resting = false;

        Peeler() {
        }

        void clear() {
            edge = KEENEST;
            peeled = 0;
            whetted = 0;
            resting = false;
        }

        void copyFrom(Peeler other) {
            garden = other.garden;
            rack = other.rack;
            skill = other.skill;
            edge = other.edge;
            peeled = other.peeled;
            whetted = other.whetted;
            resting = other.resting;
        }

        int mostInAnHour() {
            if (edge < 1) {
                return 0;
            }
            return edge >= KEEN ? skill : skill / 2;
        }
    }

    private static final class Boat {
        int holds = 0;
        int speed = 0;
        int mile = 0;
        int way = LANDED;
        int quills = 0;
        int grade = -1;
        int brought = 0;

        Boat() {
        }

        void clear() {
            mile = 0;
            way = LANDED;
            quills = 0;
            grade = -1;
            brought = 0;
        }

        void copyFrom(Boat other) {
            holds = other.holds;
            speed = other.speed;
            mile = other.mile;
            way = other.way;
            quills = other.quills;
            grade = other.grade;
            brought = other.brought;
        }

        /** An hour on its way; answers if it has come to the market in it, where its quills are to be sold. */
        boolean comesToMarket(int miles, int current) {
            if (way == BACKWARD) {
                mile = Math.max(0, mile - speed - current);
                way = mile == 0 ? LANDED : BACKWARD;
                return false;
            }
            if (way == LANDED) {
                return false;
            }
            mile = Math.min(miles, mile + Math.max(1, speed - current));
            way = mile == miles ? BACKWARD : UPWARD;
            return way == BACKWARD;
        }
    }

    private static final class Grade {
        int store = 0;
        int told = 0;
        int glut = 0;
        int sold = 0;

        Grade() {
        }

        void clear(int price) {
            store = 0;
            told = price;
            glut = 0;
            sold = 0;
        }

        void copyFrom(Grade other) {
            store = other.store;
            told = other.told;
            glut = other.glut;
            sold = other.sold;
        }

        int priceAt(int someGlut) {
            int price = told - someGlut / 4;
            return price > 0 ? price : 0;
        }

        int worthOf(int many) {
            int coins = 0;
            for (int i = 0; i < many; i++) {
                coins += priceAt(glut + i);
            }
            return coins;
        }
    }

    /** All that there is at one hour. */
    private static final class River {
        final Garden[] gardens = new Garden[MOST_GARDENS];
        final Rack[] racks = new Rack[MOST_RACKS];
        final Peeler[] peelers = new Peeler[MOST_PEELERS];
        final Boat[] boats = new Boat[MOST_BOATS];
        final Grade[] grades = new Grade[GRADES];
        final int[] shades = new int[HOURS_OF_A_DAY];
        int gardenCount = 0;
        int rackCount = 0;
        int peelerCount = 0;
        int boatCount = 0;
        int orderCount = 0;
        int hour = 0;
        int coins = 0;
        int miles = 0;
        int current = 0;
        int peeled = 0;
        int sold = 0;
        int carried = 0;

        River() {
            for (int i = 0; i < MOST_GARDENS; i++) {
                gardens[i] = new Garden();
            }
            for (int i = 0; i < MOST_RACKS; i++) {
                racks[i] = new Rack();
            }
            for (int i = 0; i < MOST_PEELERS; i++) {
                peelers[i] = new Peeler();
            }
            for (int i = 0; i < MOST_BOATS; i++) {
                boats[i] = new Boat();
            }
            for (int i = 0; i < GRADES; i++) {
                grades[i] = new Grade();
            }
            beginAnew();
        }

        /** All but the hour is as in a new object. */
        void beginAnew() {
            gardenCount = 0;
            rackCount = 0;
            peelerCount = 0;
            boatCount = 0;
            orderCount = 0;
            coins = FIRST_COINS;
            miles = 20;
            current = 1;
            peeled = 0;
            sold = 0;
            carried = 0;
            for (int i = 0; i < HOURS_OF_A_DAY; i++) {
                shades[i] = 1;
            }
            grades[0].clear(8);
            grades[1].clear(5);
            grades[2].clear(3);
            grades[3].clear(1);
        }

        void copyFrom(River other) {
            gardenCount = other.gardenCount;
            rackCount = other.rackCount;
            peelerCount = other.peelerCount;
            boatCount = other.boatCount;
            orderCount = other.orderCount;
            hour = other.hour;
            coins = other.coins;
            miles = other.miles;
            current = other.current;
            peeled = other.peeled;
            sold = other.sold;
            carried = other.carried;
            for (int i = 0; i < HOURS_OF_A_DAY; i++) {
                shades[i] = other.shades[i];
            }
            copyAllFrom(other);
        }

        private void copyAllFrom(River other) {
            for (int i = 0; i < gardenCount && i < MOST_GARDENS; i++) {
                gardens[i].copyFrom(other.gardens[i]);
            }
            for (int i = 0; i < rackCount && i < MOST_RACKS; i++) {
                racks[i].copyFrom(other.racks[i]);
            }
            for (int i = 0; i < peelerCount && i < MOST_PEELERS; i++) {
                peelers[i].copyFrom(other.peelers[i]);
            }
            for (int i = 0; i < boatCount && i < MOST_BOATS; i++) {
                boats[i].copyFrom(other.boats[i]);
            }
            for (int i = 0; i < GRADES; i++) {
                grades[i].copyFrom(other.grades[i]);
            }
        }

        // ---- what is told of it

        /** One more garden, rack, peeler or boat, as one begins; what else it has is told behind its name. */
        void addOne(int kind) {
            if (kind == GARDEN && gardenCount < MOST_GARDENS) {
                gardenCount++;
            } else if (kind == RACK && rackCount < MOST_RACKS) {
                rackCount++;
                latestRack().clear();
            } else if (kind == PEELER && peelerCount < MOST_PEELERS) {
                peelerCount++;
                latestPeeler().clear();
            } else if (kind == BOAT && boatCount < MOST_BOATS) {
                boatCount++;
                latestBoat().clear();
            }
        }

        Garden latestGarden() {
            return gardens[hasGarden(gardenCount - 1) ? gardenCount - 1 : 0];
        }

        Rack latestRack() {
            return racks[hasRack(rackCount - 1) ? rackCount - 1 : 0];
        }

        Peeler latestPeeler() {
            return peelers[hasPeeler(peelerCount - 1) ? peelerCount - 1 : 0];
        }

        Boat latestBoat() {
            return boats[hasBoat(boatCount - 1) ? boatCount - 1 : 0];
        }

        void setShadeOf(int hourOfDay, int shade) {
            if (isWithin(hourOfDay, 0, HOURS_OF_A_DAY - 1)) {
                shades[hourOfDay] = shade;
            }
        }

        // ---- what there is

        boolean hasGarden(int i) {
            return i >= 0 && i < gardenCount && i < MOST_GARDENS;
        }

        boolean hasRack(int i) {
            return i >= 0 && i < rackCount && i < MOST_RACKS;
        }

        boolean hasPeeler(int i) {
            return i >= 0 && i < peelerCount && i < MOST_PEELERS;
        }

        boolean hasBoat(int i) {
            return i >= 0 && i < boatCount && i < MOST_BOATS;
        }

        boolean hasGrade(int i) {
            return i >= 0 && i < GRADES;
        }

        boolean hasBundle(int rack, int place) {
            return hasRack(rack) && place >= 0 && place < racks[rack].bundles();
        }

        int hourOfDay() {
            return Math.floorMod(hour, HOURS_OF_A_DAY);
        }

        /** What count() tells, but for the tape. */
        int total(int what) {
            switch (what) {
                case 0:
                    return hour;
                case 1:
                    return coins;
                case 2:
                    return gardenCount;
                case 3:
                    return rackCount;
                case 4:
                    return peelerCount;
                case 5:
                    return boatCount;
                case 6:
                    return orderCount;
                case 7:
                    return storedQuills();
                case 8:
                    return dryingQuills();
                case 9:
                    return shippedQuills();
                case 10:
                    return peeled;
                case 11:
                    return sold;
                case 12:
                    return carried;
                case 13:
                    return miles;
                default:
                    return current;
            }
        }

        private int storedQuills() {
            int quills = 0;
            for (int i = 0; i < GRADES; i++) {
                quills += grades[i].store;
            }
            return quills;
        }

        private int dryingQuills() {
            int quills = 0;
            for (int i = 0; i < rackCount && i < MOST_RACKS; i++) {
                quills += racks[i].lyingQuills();
            }
            return quills;
        }

        private int shippedQuills() {
            int quills = 0;
            for (int i = 0; i < boatCount && i < MOST_BOATS; i++) {
                quills += boats[i].quills;
            }
            return quills;
        }

        int ofGarden(int i, int what) {
            if (!hasGarden(i)) {
                return 0;
            }
            switch (what) {
                case 0:
                    return gardens[i].sticks;
                case 1:
                    return gardens[i].grows;
                case 2:
                    return gardens[i].thick;
                default:
                    return peelersOfGarden(i);
            }
        }

        private int peelersOfGarden(int garden) {
            int many = 0;
            for (int i = 0; i < peelerCount && i < MOST_PEELERS; i++) {
                many += peelers[i].garden == garden ? 1 : 0;
            }
            return many;
        }

        int ofRack(int i, int what) {
            if (!hasRack(i)) {
                return 0;
            }
            switch (what) {
                case 0:
                    return racks[i].holds;
                case 1:
                    return racks[i].free();
                case 2:
                    return racks[i].bundles();
                default:
                    return peelersToRack(i);
            }
        }

        private int peelersToRack(int rack) {
            int many = 0;
            for (int i = 0; i < peelerCount && i < MOST_PEELERS; i++) {
                many += peelers[i].rack == rack ? 1 : 0;
            }
            return many;
        }

        int ofBundle(int rack, int place, int what) {
            return hasRack(rack) ? racks[rack].tell(place, what) : 0;
        }

        int ofPeeler(int i, int what) {
            if (!hasPeeler(i)) {
                return 0;
            }
            switch (what) {
                case 0:
                    return peelers[i].garden;
                case 1:
                    return peelers[i].rack;
                case 2:
                    return peelers[i].skill;
                case 3:
                    return peelers[i].edge;
                case 4:
                    return peelers[i].peeled;
                default:
                    return peelers[i].whetted;
            }
        }

        int ofBoat(int i, int what) {
            if (!hasBoat(i)) {
                return 0;
            }
            switch (what) {
                case 0:
                    return boats[i].holds;
                case 1:
                    return boats[i].speed;
                case 2:
                    return boats[i].mile;
                case 3:
                    return boats[i].way;
                case 4:
                    return boats[i].quills;
                case 5:
                    return boats[i].grade;
                default:
                    return boats[i].brought;
            }
        }

        int ofGrade(int i, int what) {
            if (!hasGrade(i)) {
                return 0;
            }
            switch (what) {
                case 0:
                    return grades[i].store;
                case 1:
                    return grades[i].told;
                case 2:
                    return grades[i].glut;
                case 3:
                    return grades[i].priceAt(grades[i].glut);
                default:
                    return grades[i].sold;
            }
        }

        /** What a word of a sum or a test tells now. */
        int told(int kind, int i) {
            switch (kind) {
                case HOUR:
                    return hourOfDay();
                case COINS:
                    return coins;
                case STICKS:
                    return ofGarden(i, 0);
                case ROOM:
                    return ofRack(i, 1);
                case EDGE:
                    return ofPeeler(i, 3);
                case MILE:
                    return ofBoat(i, 2);
                case STORE:
                    return ofGrade(i, 0);
                case PRICE:
                    return ofGrade(i, 3);
                case AFLOAT:
                    return ofBoat(i, 3) == LANDED ? 0 : 1;
                case BLUNT:
                    return ofPeeler(i, 3) == 0 ? 1 : 0;
                default:
                    return 0;
            }
        }

        /** Behind how many hours a bundle leaves its rack (what is 0), or of which grade (1); -1 if it stays. */
        int drying(int rack, int place, int what) {
            int thick = ofBundle(rack, place, 1);
            int dried = ofBundle(rack, place, 2);
            int sun = ofBundle(rack, place, 3);
            for (int hours = 1; hours <= LONGEST_DRYING; hours++) {
                int shade = shades[Math.floorMod(hour + hours - 1, HOURS_OF_A_DAY)];
                sun += shade == 0 ? 1 : 0;
                dried += shade;
                if (Rack.isDry(thick, dried)) {
                    return what == 0 ? hours : Rack.gradeOf(thick, sun);
                }
            }
            return -1;
        }

        // ---- what orders and hands do

        boolean whetsKnife(int i) {
            if (!hasPeeler(i) || peelers[i].edge >= KEENEST || coins < COINS_OF_A_WHETTING) {
                return false;
            }
            coins -= COINS_OF_A_WHETTING;
            peelers[i].edge = KEENEST;
            peelers[i].whetted++;
            return true;
        }

        /** Answers how many quills are loaded; with none the boat stays as it is. */
        int loadBoat(int i, int grade, int most) {
            if (!hasBoat(i) || !hasGrade(grade) || boats[i].way != LANDED) {
                return 0;
            }
            int many = Math.min(Math.min(most, boats[i].holds), grades[grade].store);
            if (many < 1) {
                return 0;
            }
            grades[grade].store -= many;
            boats[i].quills = many;
            boats[i].grade = grade;
            boats[i].way = UPWARD;
            return many;
        }

        // ---- an hour

        void letHourGo(Orders orders) {
            for (int i = 0; i < peelerCount && i < MOST_PEELERS; i++) {
                peelers[i].resting = false;
            }
            orders.carryOut(this);
            if (hourOfDay() == 0) {
                growSticks();
            }
            for (int i = 0; i < peelerCount && i < MOST_PEELERS; i++) {
                letPeel(peelers[i]);
            }
            int shade = shades[hourOfDay()];
            for (int i = 0; i < rackCount && i < MOST_RACKS; i++) {
                racks[i].letDry(shade, grades);
            }
            for (int i = 0; i < boatCount && i < MOST_BOATS; i++) {
                if (boats[i].comesToMarket(miles, current)) {
                    sellQuills(boats[i]);
                }
            }
            endHour();
        }

        private void growSticks() {
            for (int i = 0; i < gardenCount && i < MOST_GARDENS; i++) {
                gardens[i].sticks = Math.min(MOST_STICKS, gardens[i].sticks + gardens[i].grows);
            }
        }

        private void letPeel(Peeler peeler) {
            if (peeler.resting || !hasGarden(peeler.garden) || !hasRack(peeler.rack)) {
                return;
            }
            Garden garden = gardens[peeler.garden];
            Rack rack = racks[peeler.rack];
            int many = Math.min(peeler.mostInAnHour(), Math.min(garden.sticks, rack.free()));
            if (many < 1) {
                return;
            }
            garden.sticks -= many;
            rack.lay(many, garden.thick);
            peeler.edge--;
            peeler.peeled += many;
            peeled += many;
        }

        private void sellQuills(Boat boat) {
            if (hasGrade(boat.grade)) {
                Grade grade = grades[boat.grade];
                int brought = grade.worthOf(boat.quills);
                grade.glut += boat.quills;
                grade.sold += boat.quills;
                sold += boat.quills;
                coins += brought;
                boat.brought += brought;
            }
            boat.quills = 0;
            boat.grade = -1;
        }

        private void endHour() {
            for (int i = 0; i < GRADES; i++) {
                grades[i].glut = Math.max(0, grades[i].glut - 1);
            }
            hour++;
            coins = Math.min(MOST_COINS, coins);
        }
    }
}

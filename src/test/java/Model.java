import java.util.ArrayList;
import java.util.List;
import java.util.Map;
import java.util.Set;
import java.util.function.IntBinaryOperator;
import java.util.function.LongSupplier;
import java.util.regex.Matcher;
import java.util.regex.Pattern;

/** The document once more, in the plainest Java with lists and trees, to compare answers with. */
final class Model {
    private static final Set<String> KEYWORDS = Set.of(("garden sticks grows thick rack holds peeler of to skill boat "
            + "speed river current shade is price first second third fourth whet load with rest when hour coins edge "
            + "room store mile afloat blunt not and or min max").split(" "));
    private static final List<String> GRADES = List.of("first", "second", "third", "fourth");
    private static final Pattern TOKEN = Pattern.compile("[a-z][a-z0-9]*|[0-9]+|<=|>=|[()\\[\\];,+*/<>=-]");
    private static final Ebnf GRAMMAR = new Ebnf();

    interface Sum {
        int of(World w);
    }

    interface Test {
        boolean of(World w);
    }

    record Order(String kind, int who, int grade, Sum sum, Test test) {
    }

    static final class World {
        int hour;
        int coins = 50;
        int miles = 20;
        int current = 1;
        int peeled;
        int sold;
        int carried;
        int[] shades = {1, 1, 1, 1, 1, 1, 1, 1, 1, 1, 1, 1};
        int[] store = new int[4];
        int[] told = {8, 5, 3, 1};
        int[] glut = new int[4];
        int[] soldOf = new int[4];
        List<int[]> gardens = new ArrayList<>();
        List<Integer> racks = new ArrayList<>();
        List<List<int[]>> bundles = new ArrayList<>();
        List<int[]> peelers = new ArrayList<>();
        List<int[]> boats = new ArrayList<>();
        List<Order> orders = new ArrayList<>();

        World copy() {
            World w = new World();
            w.hour = hour;
            w.coins = coins;
            w.miles = miles;
            w.current = current;
            w.peeled = peeled;
            w.sold = sold;
            w.carried = carried;
            w.shades = shades.clone();
            w.store = store.clone();
            w.told = told.clone();
            w.glut = glut.clone();
            w.soldOf = soldOf.clone();
            gardens.forEach(g -> w.gardens.add(g.clone()));
            w.racks.addAll(racks);
            for (List<int[]> row : bundles) {
                List<int[]> copied = new ArrayList<>();
                row.forEach(b -> copied.add(b.clone()));
                w.bundles.add(copied);
            }
            peelers.forEach(p -> w.peelers.add(p.clone()));
            boats.forEach(b -> w.boats.add(b.clone()));
            w.orders = orders;
            return w;
        }

        int room(int r) {
            return racks.get(r) - bundles.get(r).stream().mapToInt(b -> b[0]).sum();
        }

        int price(int g) {
            return Math.max(0, told[g] - glut[g] / 4);
        }

        static int gradeOf(int[] b) {
            return Math.min(3, (b[1] - 1) / 3 + b[3] / 3);
        }

        boolean whet(int p) {
            int[] peeler = peelers.get(p);
            if (peeler[3] == 20 || coins < 2) {
                return false;
            }
            coins -= 2;
            peeler[3] = 20;
            peeler[5]++;
            return true;
        }

        int load(int b, int g, int many) {
            int[] boat = boats.get(b);
            int loaded = Math.min(Math.max(0, Math.min(many, boat[0])), store[g]);
            if (boat[3] != 0 || loaded == 0) {
                return 0;
            }
            store[g] -= loaded;
            boat[3] = 1;
            boat[4] = loaded;
            boat[5] = g;
            return loaded;
        }

        void go(int hours) {
            for (int i = 0; i < hours; i++) {
                goOne();
            }
        }

        void goOne() {
            boolean[] rests = new boolean[8];
            for (Order o : orders) {
                if (!o.test.of(this)) {
                    continue;
                }
                boolean done = true;
                switch (o.kind) {
                    case "whet" -> done = whet(o.who);
                    case "load" -> done = load(o.who, o.grade, o.sum.of(this)) > 0;
                    default -> rests[o.who] = true;
                }
                carried += done ? 1 : 0;
            }
            if (hour % 12 == 0) {
                gardens.forEach(g -> g[0] = Math.min(99, g[0] + g[1]));
            }
            for (int i = 0; i < peelers.size(); i++) {
                if (!rests[i]) {
                    peel(peelers.get(i));
                }
            }
            for (List<int[]> row : bundles) {
                dryRow(row);
            }
            boats.forEach(this::move);
            for (int g = 0; g < 4; g++) {
                glut[g] -= glut[g] > 0 ? 1 : 0;
            }
            hour++;
            coins = Math.min(coins, 99999);
        }

        private void peel(int[] p) {
            int many = p[3] >= 10 ? p[2] : p[3] >= 1 ? p[2] / 2 : 0;
            int[] g = gardens.get(p[0]);
            many = Math.min(many, g[0]);
            many = Math.min(many, room(p[1]));
            if (many > 0) {
                g[0] -= many;
                bundles.get(p[1]).add(new int[] {many, g[2], 0, 0});
                p[3]--;
                p[4] += many;
                peeled += many;
            }
        }

        private void dryRow(List<int[]> row) {
            int shade = shades[hour % 12];
            for (int[] b : row) {
                b[2] += shade;
                b[3] += shade == 0 ? 1 : 0;
            }
            for (int[] b : row) {
                if (b[2] >= 3 * b[1]) {
                    store[gradeOf(b)] += b[0];
                }
            }
            row.removeIf(b -> b[2] >= 3 * b[1]);
        }

        private void move(int[] b) {
            if (b[3] == 1) {
                b[2] += b[1] - current > 1 ? b[1] - current : 1;
                if (b[2] >= miles) {
                    b[2] = miles;
                    b[3] = 2;
                    for (; b[4] > 0; b[4]--) {
                        coins += price(b[5]);
                        b[6] += price(b[5]);
                        glut[b[5]]++;
                        soldOf[b[5]]++;
                        sold++;
                    }
                    b[5] = -1;
                }
            } else if (b[3] == 2) {
                b[2] -= b[1] + current;
                if (b[2] <= 0) {
                    b[2] = 0;
                    b[3] = 0;
                }
            }
        }
    }

    private World world = new World();
    private String tape = "";
    private int errorAt = -1;

    // ---- the language

    private final List<String> texts = new ArrayList<>();
    private final List<Integer> starts = new ArrayList<>();
    private final List<String> kinds = new ArrayList<>();
    private int at;
    private World told;
    private final List<List<String>> names = new ArrayList<>();

    private void split() {
        texts.clear();
        starts.clear();
        kinds.clear();
        Matcher matcher = TOKEN.matcher(tape);
        int place = 0;
        while (true) {
            while (place < tape.length() && (tape.charAt(place) == ' ' || tape.charAt(place) == '\n')) {
                place++;
            }
            starts.add(place);
            if (place == tape.length()) {
                texts.add("");
                kinds.add("end");
                return;
            }
            matcher.region(place, tape.length());
            boolean found = matcher.lookingAt() && kinds.size() < 400;
            String text = found ? matcher.group() : "";
            texts.add(text);
            kinds.add(found ? kindOf(text) : "wrong");
            if (!found) {
                return;
            }
            place += text.length();
        }
    }

    private static String kindOf(String text) {
        char first = text.charAt(0);
        if (KEYWORDS.contains(text)) {
            return text;
        }
        if (first >= 'a' && first <= 'z') {
            return text.length() <= 10 ? "name" : "wrong";
        }
        if (first >= '0' && first <= '9') {
            return text.length() <= 6 ? "number" : "wrong";
        }
        return text;
    }

    int teach() {
        split();
        tape = "";
        int wrong = GRAMMAR.firstWrong(kinds);
        if (wrong >= 0) {
            errorAt = starts.get(wrong);
            return 1;
        }
        told = new World();
        told.hour = world.hour;
        names.clear();
        for (int i = 0; i < 5; i++) {
            names.add(new ArrayList<>());
        }
        int orders = 0;
        for (int i = 0; i < kinds.size(); i++) {
            int error = 0;
            String before = i > 0 ? kinds.get(i - 1) : "";
            switch (kinds.get(i)) {
                case "name" -> error = nameError(before, texts.get(i));
                case "number" -> error = numberError(before, i > 2 ? kinds.get(i - 3) : "", texts.get(i));
                case "whet", "load", "rest" -> error = ++orders > 20 ? 4 : 0;
                default -> { }
            }
            if (error > 0) {
                errorAt = starts.get(i);
                return error;
            }
        }
        at = 0;
        while (!kinds.get(at).equals("end")) {
            line();
        }
        world = told;
        errorAt = -1;
        return 0;
    }

    private int nameError(String before, String name) {
        int made = List.of("garden", "rack", "peeler", "boat").indexOf(before);
        if (made >= 0) {
            if (names.get(made).contains(name)) {
                return 2;
            }
            names.get(made).add(name);
            return names.get(made).size() > (made == 2 ? 8 : 4) ? 4 : 0;
        }
        int asked = switch (before) {
            case "of", "sticks" -> 0;
            case "to", "room" -> 1;
            case "whet", "rest", "edge", "blunt" -> 2;
            default -> 3;
        };
        return names.get(asked).contains(name) ? 0 : 3;
    }

    private static int numberError(String before, String threeBefore, String text) {
        int n = Integer.parseInt(text);
        int[] range = switch (before) {
            case "sticks" -> new int[] {0, 99};
            case "grows" -> new int[] {0, 20};
            case "thick", "skill", "speed" -> new int[] {1, 9};
            case "holds" -> new int[] {1, threeBefore.equals("rack") ? 60 : 40};
            case "river" -> new int[] {1, 60};
            case "current" -> new int[] {0, 5};
            case "shade" -> new int[] {0, 11};
            case "is" -> new int[] {0, 3};
            case "first", "second", "third", "fourth" -> new int[] {0, 50};
            default -> new int[] {0, 999999};
        };
        return n < range[0] || n > range[1] ? 5 : 0;
    }

    private String take() {
        return texts.get(at++);
    }

    private boolean took(String kind) {
        if (kinds.get(at).equals(kind)) {
            at++;
            return true;
        }
        return false;
    }

    private int number() {
        at++;
        return Integer.parseInt(take());
    }

    private int name(int kind) {
        at++;
        return names.get(kind).indexOf(take());
    }

    private int grade() {
        return GRADES.indexOf(take());
    }

    private void line() {
        switch (take()) {
            case "garden" -> {
                at++;
                told.gardens.add(new int[] {number(), number(), number()});
            }
            case "rack" -> {
                at++;
                told.racks.add(number());
                told.bundles.add(new ArrayList<>());
            }
            case "peeler" -> {
                at++;
                told.peelers.add(new int[] {name(0), name(1), number(), 20, 0, 0});
            }
            case "boat" -> {
                at++;
                told.boats.add(new int[] {number(), number(), 0, 0, 0, -1, 0});
            }
            case "river" -> {
                told.miles = Integer.parseInt(take());
                told.current = number();
            }
            case "shade" -> {
                int hour = Integer.parseInt(take());
                told.shades[hour] = number();
            }
            case "price" -> {
                int grade = grade();
                told.told[grade] = Integer.parseInt(take());
            }
            case "load" -> {
                int boat = names.get(3).indexOf(take());
                at++;
                Sum sum = sum();
                at++;
                int grade = grade();
                Test test = took("when") ? test() : w -> true;
                told.orders.add(new Order("load", boat, grade, sum, test));
            }
            default -> {
                String kind = texts.get(at - 1);
                int peeler = names.get(2).indexOf(take());
                at++;
                told.orders.add(new Order(kind, peeler, 0, w -> 0, test()));
            }
        }
        at++;
    }

    private Test test() {
        Test left = both();
        while (took("or")) {
            Test first = left;
            Test second = both();
            left = w -> first.of(w) | second.of(w);
        }
        return left;
    }

    private Test both() {
        Test left = single();
        while (took("and")) {
            Test first = left;
            Test second = single();
            left = w -> first.of(w) & second.of(w);
        }
        return left;
    }

    private Test single() {
        if (took("not")) {
            Test turned = single();
            return w -> !turned.of(w);
        }
        if (took("[")) {
            Test inner = test();
            at++;
            return inner;
        }
        if (took("afloat")) {
            int boat = names.get(3).indexOf(take());
            return w -> w.boats.get(boat)[3] > 0;
        }
        if (took("blunt")) {
            int peeler = names.get(2).indexOf(take());
            return w -> w.peelers.get(peeler)[3] == 0;
        }
        Sum left = sum();
        String sign = take();
        Sum right = sum();
        return switch (sign) {
            case "<" -> w -> left.of(w) < right.of(w);
            case ">" -> w -> left.of(w) > right.of(w);
            case "=" -> w -> left.of(w) == right.of(w);
            case "<=" -> w -> left.of(w) <= right.of(w);
            default -> w -> left.of(w) >= right.of(w);
        };
    }

    private static final Map<String, IntBinaryOperator> SIGNS = Map.of(
            "+", (a, b) -> (int) ((long) a + b),
            "-", (a, b) -> (int) ((long) a - b),
            "*", (a, b) -> (int) ((long) a * b),
            "/", (a, b) -> b == 0 ? 0 : (int) ((long) a / b));

    private static Sum joined(String sign, Sum left, Sum right) {
        return w -> SIGNS.get(sign).applyAsInt(left.of(w), right.of(w));
    }

    private Sum sum() {
        Sum left = product();
        while (kinds.get(at).equals("+") || kinds.get(at).equals("-")) {
            left = joined(take(), left, product());
        }
        return left;
    }

    private Sum product() {
        Sum left = value();
        while (kinds.get(at).equals("*") || kinds.get(at).equals("/")) {
            left = joined(take(), left, value());
        }
        return left;
    }

    private Sum value() {
        String text = take();
        switch (text) {
            case "hour":
                return w -> w.hour % 12;
            case "coins":
                return w -> w.coins;
            case "sticks": {
                int i = names.get(0).indexOf(take());
                return w -> w.gardens.get(i)[0];
            }
            case "edge": {
                int i = names.get(2).indexOf(take());
                return w -> w.peelers.get(i)[3];
            }
            case "room": {
                int i = names.get(1).indexOf(take());
                return w -> w.room(i);
            }
            case "mile": {
                int i = names.get(3).indexOf(take());
                return w -> w.boats.get(i)[2];
            }
            case "store": {
                int i = grade();
                return w -> w.store[i];
            }
            case "price": {
                int i = grade();
                return w -> w.price(i);
            }
            case "-": {
                Sum turned = value();
                return w -> (int) (0L - turned.of(w));
            }
            case "(": {
                Sum inner = sum();
                at++;
                return inner;
            }
            case "min", "max": {
                at++;
                Sum left = sum();
                at++;
                Sum right = sum();
                at++;
                return w -> {
                    int a = left.of(w);
                    int b = right.of(w);
                    return text.equals("min") == a < b ? a : b;
                };
            }
            default: {
                int number = Integer.parseInt(text);
                return w -> number;
            }
        }
    }

    // ---- the calls: a number, or the name of the exception that is due

    static final class Refused extends RuntimeException {
        private static final long serialVersionUID = 1L;

        Refused(String what) {
            super(what);
        }
    }

    static String outcome(LongSupplier call) {
        try {
            return String.valueOf(call.getAsLong());
        } catch (Refused refused) {
            return refused.getMessage();
        }
    }

    private static void bound(boolean holds) {
        refuse(holds, "IndexOutOfBoundsException");
    }

    private static void legal(boolean holds) {
        refuse(holds, "IllegalArgumentException");
    }

    private static void able(boolean holds) {
        refuse(holds, "IllegalStateException");
    }

    private static void refuse(boolean holds, String what) {
        if (!holds) {
            throw new Refused(what);
        }
    }

    private static boolean in(int x, int least, int most) {
        return x >= least && x <= most;
    }

    private static boolean in(int x, List<?> all) {
        return in(x, 0, all.size() - 1);
    }

    int feed(int... five) {
        able(tape.length() + 20 <= 2000);
        StringBuilder text = new StringBuilder(tape);
        for (int word : five) {
            text.append((char) (word >>> 24)).append((char) (word >>> 16 & 255));
            text.append((char) (word >>> 8 & 255)).append((char) (word & 255));
        }
        tape = text.toString();
        return tape.length();
    }

    int trim(int n) {
        legal(in(n, 0, tape.length()));
        tape = tape.substring(0, n);
        return n;
    }

    int errorAt() {
        return errorAt;
    }

    int count(int what) {
        bound(in(what, 0, 15));
        return total(world, what);
    }

    private int total(World w, int what) {
        int[] all = {w.hour, w.coins, w.gardens.size(), w.racks.size(), w.peelers.size(), w.boats.size(),
            w.orders.size(), w.store[0] + w.store[1] + w.store[2] + w.store[3],
            w.bundles.stream().flatMap(List::stream).mapToInt(b -> b[0]).sum(),
            w.boats.stream().mapToInt(b -> b[4]).sum(), w.peeled, w.sold, w.carried, w.miles, w.current,
            tape.length()};
        return all[what];
    }

    int garden(int i, int what) {
        bound(in(i, world.gardens) && in(what, 0, 3));
        return what < 3 ? world.gardens.get(i)[what] : (int) world.peelers.stream().filter(p -> p[0] == i).count();
    }

    int rack(int i, int what) {
        bound(in(i, world.racks) && in(what, 0, 3));
        return switch (what) {
            case 0 -> world.racks.get(i);
            case 1 -> world.room(i);
            case 2 -> world.bundles.get(i).size();
            default -> (int) world.peelers.stream().filter(p -> p[1] == i).count();
        };
    }

    int bundle(int i, int place, int what) {
        bound(in(i, world.racks) && in(place, world.bundles.get(i)) && in(what, 0, 4));
        int[] b = world.bundles.get(i).get(place);
        return what < 4 ? b[what] : World.gradeOf(b);
    }

    /** The bundle dries on a river of its own, with nobody there. */
    int dry(int i, int place, int what) {
        bound(in(i, world.racks) && in(place, world.bundles.get(i)) && in(what, 0, 1));
        World w = new World();
        w.hour = world.hour;
        w.shades = world.shades.clone();
        w.bundles.add(new ArrayList<>(List.of(world.bundles.get(i).get(place).clone())));
        for (int hours = 1; hours <= 300; hours++) {
            w.go(1);
            if (w.bundles.get(0).isEmpty()) {
                int grade = 0;
                while (w.store[grade] == 0) {
                    grade++;
                }
                return what == 0 ? hours : grade;
            }
        }
        return -1;
    }

    int peeler(int i, int what) {
        bound(in(i, world.peelers) && in(what, 0, 5));
        return world.peelers.get(i)[what];
    }

    int boat(int i, int what) {
        bound(in(i, world.boats) && in(what, 0, 6));
        return world.boats.get(i)[what];
    }

    int grade(int i, int what) {
        bound(in(i, 0, 3) && in(what, 0, 4));
        int[] all = {world.store[i], world.told[i], world.glut[i], world.price(i), world.soldOf[i]};
        return all[what];
    }

    int shade(int hour) {
        bound(in(hour, 0, 11));
        return world.shades[hour];
    }

    int worth(int grade, int many) {
        bound(in(grade, 0, 3));
        legal(in(many, 1, 40));
        World w = world.copy();
        int coins = 0;
        for (int i = 0; i < many; i++) {
            coins += w.price(grade);
            w.glut[grade]++;
        }
        return coins;
    }

    int whet(int peeler) {
        bound(in(peeler, world.peelers));
        able(world.whet(peeler));
        return world.coins;
    }

    int load(int boat, int grade, int many) {
        bound(in(boat, world.boats) && in(grade, 0, 3));
        legal(in(many, 1, world.boats.get(boat)[0]));
        int loaded = world.load(boat, grade, many);
        able(loaded > 0);
        return loaded;
    }

    int setShade(int hour, int shade) {
        bound(in(hour, 0, 11));
        legal(in(shade, 0, 3));
        int before = world.shades[hour];
        world.shades[hour] = shade;
        return before;
    }

    int setCurrent(int current) {
        legal(in(current, 0, 5));
        int before = world.current;
        world.current = current;
        return before;
    }

    int grant(int coins) {
        legal(in(coins, 1, 9999));
        world.coins = Math.min(99999, world.coins + coins);
        return world.coins;
    }

    int pass(int hours) {
        legal(in(hours, 1, 120));
        int before = world.peeled;
        world.go(hours);
        return world.peeled - before;
    }

    /** With the whole river, not only the boat. */
    int until(int boat) {
        bound(in(boat, world.boats));
        World w = world.copy();
        for (int hours = 0; hours <= 150; hours++) {
            if (w.boats.get(boat)[3] == 0) {
                return hours;
            }
            w.go(1);
        }
        return -1;
    }

    int foresee(int hours, int what) {
        legal(in(hours, 1, 120));
        bound(what == 1 || in(what, 7, 12));
        World w = world.copy();
        w.go(hours);
        return total(w, what);
    }

    int advise(int boat, int hours) {
        bound(in(boat, world.boats));
        legal(in(hours, 1, 100));
        int[] coins = new int[5];
        for (int grade = 0; grade < 5; grade++) {
            World w = world.copy();
            coins[grade] = -1;
            if (grade == 4 || w.load(boat, grade, w.boats.get(boat)[0]) > 0) {
                w.go(hours);
                coins[grade] = w.coins;
            }
        }
        for (int grade = 0; grade < 4; grade++) {
            boolean most = coins[grade] > coins[4];
            for (int other = 0; other < 4; other++) {
                most &= coins[grade] >= coins[other];
            }
            if (most) {
                return grade;
            }
        }
        return -1;
    }

    int best(int hours) {
        legal(in(hours, 1, 60));
        World without = world.copy();
        without.go(hours);
        int found = -1;
        int most = without.peeled;
        for (int p = world.peelers.size() - 1; p >= 0; p--) {
            World w = world.copy();
            if (w.whet(p)) {
                w.go(hours);
                if (w.peeled > without.peeled && w.peeled >= most) {
                    most = w.peeled;
                    found = p;
                }
            }
        }
        return found;
    }

    double mean() {
        return world.peelers.stream().mapToInt(p -> p[3]).average().orElse(0);
    }

    long digest() {
        List<Integer> all = new ArrayList<>();
        for (int what = 0; what <= 15; what++) {
            all.add(count(what));
        }
        for (int shade : world.shades) {
            all.add(shade);
        }
        for (int i = 0; i < world.gardens.size(); i++) {
            for (int what = 0; what <= 3; what++) {
                all.add(garden(i, what));
            }
        }
        for (int i = 0; i < world.racks.size(); i++) {
            for (int what = 0; what <= 3; what++) {
                all.add(rack(i, what));
            }
            for (int place = 0; place < world.bundles.get(i).size(); place++) {
                for (int what = 0; what <= 4; what++) {
                    all.add(bundle(i, place, what));
                }
            }
        }
        world.peelers.forEach(p -> addAll(all, p));
        world.boats.forEach(b -> addAll(all, b));
        for (int i = 0; i < 4; i++) {
            for (int what = 0; what <= 4; what++) {
                all.add(grade(i, what));
            }
        }
        long d = 1571;
        for (int x : all) {
            d = d * 31 + x;
        }
        return d;
    }

    private static void addAll(List<Integer> all, int[] numbers) {
        for (int number : numbers) {
            all.add(number);
        }
    }
}

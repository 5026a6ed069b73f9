import java.util.ArrayList;
import java.util.Arrays;
import java.util.HashMap;
import java.util.HashSet;
import java.util.List;
import java.util.Map;
import java.util.Set;
import java.util.TreeMap;
import java.util.TreeSet;

/**
 * The document once more, in another way than the class goes: texts, sets and maps, every choice
 * tried out. It is what ModelTest compares the class with.
 */
final class Model {
    static final Set<String> OWN = new HashSet<>(Arrays.asList("word", "prefix", "errors", "hash", "buckets", "slips", "draw",
        "or", "and", "not", "total", "length", "first", "last"));

    static final class Fault extends RuntimeException {
        final int kind;
        final int place;

        Fault(int kind, int place) {
            super(kind + " at " + place, null, false, false);
            this.kind = kind;
            this.place = place;
        }
    }

    record Token(String text, int place) { }

    interface Formula {
        int of(String form);
    }

    static final class Text {
        final List<Token> tokens = new ArrayList<>();
        final int length;
        int next = 0;
        int units = 0;
        Fault lexical = null;

        Text(byte[] bytes) {
            length = bytes.length;
            String all = new String(bytes, java.nio.charset.StandardCharsets.ISO_8859_1);
            java.util.regex.Matcher m = java.util.regex.Pattern.compile("[ \\n]+|[a-z]+|[0-9]+[a-z]?|[;()<>=+*/%-]").matcher(all);
            int at = 0;
            while (at < all.length()) {
                m.region(at, all.length());
                if (!m.lookingAt()) {
                    lexical = new Fault(1, at);
                    return;
                }
                String t = m.group();
                boolean blank = t.charAt(0) == ' ' || t.charAt(0) == '\n';
                boolean letters = t.matches("[a-z]+");
                boolean digits = Character.isDigit(t.charAt(0));
                if (letters && t.length() > 8 || digits && !t.matches("[0-9]{1,4}")) {
                    lexical = new Fault(1, at);
                    return;
                }
                if (!blank) {
                    tokens.add(new Token(t, at));
                }
                at += t.length();
            }
        }

        Token peek() {
            if (next < tokens.size()) {
                return tokens.get(next);
            }
            if (lexical != null) {
                throw lexical;
            }
            return new Token("", length);
        }

        boolean at(String... texts) {
            return Arrays.asList(texts).contains(peek().text());
        }

        Token take() {
            Token t = peek();
            next++;
            return t;
        }

        void take(String sign) {
            if (!at(sign)) {
                throw new Fault(2, peek().place());
            }
            next++;
        }

        int number(int least, int most) {
            Token t = peek();
            if (!t.text().matches("[0-9]+")) {
                throw new Fault(2, t.place());
            }
            int n = Integer.parseInt(t.text());
            if (n < least || n > most) {
                throw new Fault(4, t.place());
            }
            next++;
            return n;
        }

        Formula e(int depth) {
            Formula f = both(depth);
            while (at("or")) {
                take();
                Formula a = f;
                Formula b = both(depth);
                f = form -> a.of(form) != 0 | b.of(form) != 0 ? 1 : 0;
            }
            return f;
        }

        Formula both(int depth) {
            Formula f = one(depth);
            while (at("and")) {
                take();
                Formula a = f;
                Formula b = one(depth);
                f = form -> a.of(form) != 0 & b.of(form) != 0 ? 1 : 0;
            }
            return f;
        }

        Formula one(int depth) {
            if (at("not")) {
                if (depth >= 7) {
                    throw new Fault(2, peek().place());
                }
                take();
                Formula a = one(depth + 1);
                return form -> a.of(form) == 0 ? 1 : 0;
            }
            Formula a = sum(depth);
            if (!at("<", ">", "=")) {
                return a;
            }
            String sign = take().text();
            Formula b = sum(depth);
            return form -> {
                int order = Integer.compare(a.of(form), b.of(form));
                return (sign.equals("<") ? order < 0 : sign.equals(">") ? order > 0 : order == 0) ? 1 : 0;
            };
        }

        Formula sum(int depth) {
            Formula f = term(depth);
            while (at("+", "-")) {
                boolean plus = take().text().equals("+");
                Formula a = f;
                Formula b = term(depth);
                f = form -> plus ? a.of(form) + b.of(form) : a.of(form) - b.of(form);
            }
            return f;
        }

        Formula term(int depth) {
            Formula f = unit(depth);
            while (at("*", "/", "%")) {
                String sign = take().text();
                Formula a = f;
                Formula b = unit(depth);
                f = form -> {
                    int x = a.of(form);
                    int y = b.of(form);
                    if (sign.equals("*")) {
                        return x * y;
                    }
                    return y == 0 ? 0 : sign.equals("/") ? x / y : x % y;
                };
            }
            return f;
        }

        Formula unit(int depth) {
            Token t = peek();
            if (units == 30) {
                throw new Fault(2, t.place());
            }
            units++;
            switch (t.text()) {
                case "total":
                    take();
                    return form -> form.chars().map(c -> c - 96).sum();
                case "length":
                    take();
                    return String::length;
                case "first":
                    take();
                    return form -> form.isEmpty() ? 0 : form.charAt(0) - 96;
                case "last":
                    take();
                    return form -> form.isEmpty() ? 0 : form.charAt(form.length() - 1) - 96;
                case "(":
                    if (depth >= 7) {
                        throw new Fault(2, t.place());
                    }
                    take();
                    Formula f = e(depth + 1);
                    take(")");
                    return f;
                default:
                    int n = number(0, 9999);
                    return form -> n;
            }
        }
    }

    static final class Settings {
        final List<String> names = new ArrayList<>();
        final List<Integer> uses = new ArrayList<>();
        int prefix = 4;
        int errors = 2;
        int buckets = 13;
        int slips = 0;
        int draw = 0;
        int units = 0;
        Formula hash = form -> form.chars().map(c -> c - 96).sum() * 7 + form.length();

        Settings() {
        }

        Settings(byte[] bytes) {
            Text text = new Text(bytes);
            Set<String> lines = new HashSet<>();
            while (!text.peek().text().isEmpty()) {
                Token t = text.peek();
                boolean word = t.text().equals("word");
                boolean line = word || Set.of("prefix", "errors", "hash", "buckets", "slips", "draw").contains(t.text());
                if (!line || (word ? names.size() == 10 : !lines.add(t.text()))) {
                    throw new Fault(2, t.place());
                }
                text.take();
                switch (t.text()) {
                    case "word" -> readWord(text);
                    case "prefix" -> prefix = text.number(1, 6);
                    case "errors" -> errors = text.number(0, 2);
                    case "buckets" -> buckets = text.number(1, 31);
                    case "slips" -> slips = text.number(0, 100);
                    case "draw" -> draw = text.number(0, 999);
                    default -> hash = text.e(0);
                }
                text.take(";");
            }
            units = text.units;
        }

        private void readWord(Text text) {
            Token name = text.peek();
            if (!name.text().matches("[a-z]+") || OWN.contains(name.text())) {
                throw new Fault(2, name.place());
            }
            if (names.contains(name.text())) {
                throw new Fault(3, name.place());
            }
            if (name.text().length() > 6) {
                throw new Fault(4, name.place());
            }
            text.take();
            int used = text.number(0, 999);
            names.add(name.text());
            uses.add(used);
        }
    }

    record Entry(String spelling, int used, boolean is) { }

    record Kept(List<Entry> entries, List<String> phrase, int seed) { }

    record Seen(String spelling, int d, boolean is, int told, Integer untold) { }

    byte[] tape = new byte[0];
    Settings book = new Settings();
    int fault = 0;
    int place = -1;
    Kept now = new Kept(List.of(), List.of(), 0);
    List<Kept> before = new ArrayList<>();
    List<Kept> after = new ArrayList<>();
    Kept[] boxes = new Kept[3];
    List<Seen> seen = new ArrayList<>();
    int time = 0;
    List<Integer> lying = new ArrayList<>();
    static final Map<String, Integer> KNOWN = new HashMap<>();

    static String can(int spelling) {
        if (spelling < 0) {
            return null;
        }
        String digits = Integer.toString(spelling, 27);
        if (spelling == 0) {
            return "";
        }
        if (digits.indexOf('0') >= 0 || digits.length() > 6) {
            return null;
        }
        StringBuilder text = new StringBuilder();
        for (char c : digits.toCharArray()) {
            text.append((char) ('a' + Character.digit(c, 27) - 1));
        }
        return text.toString();
    }

    /** By trying each step at the left end of what is left of both. */
    static int distanceOf(String a, String b) {
        if (a.isEmpty() || b.isEmpty()) {
            return a.length() + b.length();
        }
        String key = a + "," + b;
        Integer known = KNOWN.get(key);
        if (known != null) {
            return known;
        }
        int least = distanceOf(a.substring(1), b.substring(1)) + (a.charAt(0) == b.charAt(0) ? 0 : 1);
        least = Math.min(least, 1 + distanceOf(a.substring(1), b));
        least = Math.min(least, 1 + distanceOf(a, b.substring(1)));
        if (a.length() > 1 && b.length() > 1 && a.charAt(0) == b.charAt(1) && a.charAt(1) == b.charAt(0)) {
            least = Math.min(least, 1 + distanceOf(a.substring(2), b.substring(2)));
        }
        KNOWN.put(key, least);
        return least;
    }

    static void shorten(String text, int errors, Set<String> into) {
        into.add(text);
        for (int i = 0; errors > 0 && i < text.length(); i++) {
            shorten(text.substring(0, i) + text.substring(i + 1), errors - 1, into);
        }
    }

    Set<String> formsOf(String spelling, int errors) {
        Set<String> forms = new HashSet<>();
        shorten(spelling.substring(0, Math.min(book.prefix, spelling.length())), errors, forms);
        return forms;
    }

    Set<String> formsOf(String spelling) {
        return formsOf(spelling, book.errors);
    }

    int bucketOf(String form) {
        return Math.floorMod(book.hash.of(form), book.buckets);
    }

    List<Integer> alive() {
        List<Integer> numbers = new ArrayList<>();
        for (int i = 0; i < now.entries().size(); i++) {
            if (now.entries().get(i).is()) {
                numbers.add(i);
            }
        }
        return numbers;
    }

    String spelled(int number) {
        return now.entries().get(number).spelling();
    }

    int used(int number) {
        return now.entries().get(number).used();
    }

    boolean isEntry(int n) {
        return alive().contains(n);
    }

    void act(Kept then) {
        before.add(now);
        if (before.size() > 40) {
            before.remove(0);
        }
        after.clear();
        now = then;
    }

    Kept with(int number, Entry entry) {
        List<Entry> entries = new ArrayList<>(now.entries());
        if (number == entries.size()) {
            entries.add(entry);
        } else {
            entries.set(number, entry);
        }
        return new Kept(entries, now.phrase(), now.seed());
    }

    int feed(int... numbers) {
        if (tape.length + 20 > 1600) {
            return -1;
        }
        java.nio.ByteBuffer more = java.nio.ByteBuffer.allocate(tape.length + 20);
        more.put(tape);
        for (int n : numbers) {
            more.putInt(n);
        }
        tape = more.array();
        return tape.length;
    }

    int end(int n) {
        if (n < 0 || n > tape.length) {
            return -1;
        }
        tape = Arrays.copyOf(tape, n);
        return n;
    }

    int book() {
        try {
            book = new Settings(tape);
        } catch (Fault f) {
            fault = f.kind;
            place = f.place;
            return -1;
        }
        fault = 0;
        place = -1;
        tape = new byte[0];
        List<Entry> entries = new ArrayList<>();
        for (int i = 0; i < book.names.size(); i++) {
            entries.add(new Entry(book.names.get(i), book.uses.get(i), true));
        }
        now = new Kept(entries, List.of(), book.draw);
        before.clear();
        after.clear();
        seen.clear();
        lying.clear();
        boxes = new Kept[3];
        return entries.size();
    }

    int fault(int what) {
        return what == 0 ? fault : what == 1 ? place : -1;
    }

    int entry(int n, int what) {
        if (!isEntry(n)) {
            return -1;
        }
        return switch (what) {
            case 0 -> Check.s(spelled(n));
            case 1 -> spelled(n).length();
            case 2 -> used(n);
            case 3 -> formsOf(spelled(n)).size();
            default -> -1;
        };
    }

    int learn(int spelling, int used) {
        String text = can(spelling);
        boolean there = alive().stream().anyMatch(i -> spelled(i).equals(text));
        if (text == null || used < 0 || used > 999 || there || now.entries().size() == 14) {
            return -1;
        }
        int number = now.entries().size();
        act(with(number, new Entry(text, used, true)));
        return number;
    }

    int forget(int n) {
        if (!isEntry(n)) {
            return -1;
        }
        act(with(n, new Entry(spelled(n), used(n), false)));
        return alive().size();
    }

    int use(int n) {
        if (!isEntry(n) || used(n) == 999) {
            return -1;
        }
        act(with(n, new Entry(spelled(n), used(n) + 1, true)));
        return used(n);
    }

    int type(int spelling) {
        String text = can(spelling);
        if (text == null || now.phrase().size() == 6) {
            return -2;
        }
        int seed = (now.seed() * 137 + 71) % 1000;
        if (seed % 100 < book.slips && !text.isEmpty()) {
            text = text.substring(0, text.length() - 1);
        }
        List<String> phrase = new ArrayList<>(now.phrase());
        phrase.add(text);
        act(new Kept(now.entries(), phrase, seed));
        return nearest(Check.s(text));
    }

    int wipe() {
        int were = now.phrase().size();
        if (were == 0) {
            return -1;
        }
        act(new Kept(now.entries(), List.of(), now.seed()));
        return were;
    }

    int undo() {
        if (before.isEmpty()) {
            return 0;
        }
        after.add(now);
        now = before.remove(before.size() - 1);
        return 1;
    }

    int redo() {
        if (after.isEmpty()) {
            return 0;
        }
        before.add(now);
        now = after.remove(after.size() - 1);
        return 1;
    }

    int typed(int i) {
        return i >= 0 && i < now.phrase().size() ? Check.s(now.phrase().get(i)) : -1;
    }

    int distance(int a, int b) {
        return can(a) == null || can(b) == null ? -1 : distanceOf(can(a), can(b));
    }

    int forms(int spelling) {
        lying.clear();
        if (can(spelling) == null) {
            return -1;
        }
        TreeSet<Integer> numbers = new TreeSet<>();
        formsOf(can(spelling)).forEach(f -> numbers.add(Check.s(f)));
        lying.addAll(numbers);
        return lying.size();
    }

    int bucket(int form) {
        return can(form) == null ? -1 : bucketOf(can(form));
    }

    boolean meets(String a, String b, boolean truly) {
        for (String f : formsOf(a)) {
            for (String g : formsOf(b)) {
                if (truly ? f.equals(g) : bucketOf(f) == bucketOf(g)) {
                    return true;
                }
            }
        }
        return false;
    }

    int met(int spelling, int what) {
        String text = can(spelling);
        if (text == null || what < 0 || what > 2) {
            return -1;
        }
        int bits = 0;
        for (int i : alive()) {
            boolean truly = meets(text, spelled(i), true);
            boolean met = meets(text, spelled(i), false);
            if (what == 0 ? met : what == 1 ? truly : met && !truly) {
                bits |= 1 << i;
            }
        }
        return bits;
    }

    int missed(int spelling, int d) {
        String text = can(spelling);
        if (text == null || d < 0 || d > 6) {
            return -1;
        }
        int bits = 0;
        for (int i : alive()) {
            if (distanceOf(text, spelled(i)) <= d && !meets(text, spelled(i), true)) {
                bits |= 1 << i;
            }
        }
        return bits;
    }

    List<Integer> nearList(String text, int d) {
        List<Integer> list = new ArrayList<>();
        for (int i : alive()) {
            if (meets(text, spelled(i), true) && distanceOf(text, spelled(i)) <= d) {
                list.add(i);
            }
        }
        list.sort((a, b) -> {
            int by = Integer.compare(distanceOf(text, spelled(a)), distanceOf(text, spelled(b)));
            by = by != 0 ? by : Integer.compare(used(b), used(a));
            return by != 0 ? by : Integer.compare(a, b);
        });
        return list;
    }

    int nearest(int spelling) {
        if (can(spelling) == null) {
            return -1;
        }
        List<Integer> list = nearList(can(spelling), 99);
        return list.isEmpty() ? -1 : list.get(0);
    }

    int near(int spelling, int d) {
        lying.clear();
        if (can(spelling) == null || d < 0 || d > 6) {
            return -1;
        }
        lying.addAll(nearList(can(spelling), d));
        return lying.size();
    }

    int split(int spelling, int what) {
        String text = can(spelling);
        if (text == null || alive().isEmpty() || what < 0 || what > 2) {
            return -1;
        }
        int[] best = {-1, -1, 99};
        for (int a : alive()) {
            for (int b : alive()) {
                int d = distanceOf(text, spelled(a) + spelled(b));
                if (d < best[2]) {
                    best = new int[] {a, b, d};
                }
            }
        }
        return best[what];
    }

    int join(int i, int what) {
        if (i < 0 || i > now.phrase().size() - 2 || alive().isEmpty() || what < 0 || what > 1) {
            return -1;
        }
        String text = now.phrase().get(i) + now.phrase().get(i + 1);
        int best = -1;
        for (int a : alive()) {
            if (best < 0 || distanceOf(text, spelled(a)) < distanceOf(text, spelled(best))) {
                best = a;
            }
        }
        return what == 0 ? best : distanceOf(text, spelled(best));
    }

    /** All costs of readings from the i-th spelling on, each with how many cost so. */
    TreeMap<Integer, Integer> costs(int i) {
        TreeMap<Integer, Integer> all = new TreeMap<>();
        List<String> phrase = now.phrase();
        if (i == phrase.size()) {
            all.put(0, 1);
            return all;
        }
        List<Integer> one = new ArrayList<>();
        for (int a : alive()) {
            one.add(distanceOf(phrase.get(i), spelled(a)));
            for (int b : alive()) {
                one.add(1 + distanceOf(phrase.get(i), spelled(a) + spelled(b)));
            }
        }
        addCosts(all, one, costs(i + 1));
        if (i + 1 < phrase.size()) {
            List<Integer> two = new ArrayList<>();
            for (int a : alive()) {
                two.add(1 + distanceOf(phrase.get(i) + phrase.get(i + 1), spelled(a)));
            }
            addCosts(all, two, costs(i + 2));
        }
        return all;
    }

    static void addCosts(TreeMap<Integer, Integer> all, List<Integer> here, TreeMap<Integer, Integer> behind) {
        for (int cost : here) {
            behind.forEach((more, count) -> all.merge(cost + more, count, Integer::sum));
        }
    }

    int reading() {
        TreeMap<Integer, Integer> all = costs(0);
        return all.isEmpty() ? -1 : all.firstKey();
    }

    int readings() {
        TreeMap<Integer, Integer> all = costs(0);
        return all.isEmpty() ? -1 : all.firstEntry().getValue();
    }

    int apart(int a, int b) {
        return distanceOf(spelled(a), spelled(b));
    }

    int closest(int what) {
        if (what < 0 || what > 2 || alive().size() < 2) {
            return -1;
        }
        int[] best = {-1, -1, 99};
        for (int a : alive()) {
            for (int b : alive()) {
                if (a < b && apart(a, b) < best[2]) {
                    best = new int[] {a, b, apart(a, b)};
                }
            }
        }
        return best[what];
    }

    int groups(int d) {
        if (d < 0 || d > 6) {
            return -1;
        }
        Map<Integer, Integer> head = new HashMap<>();
        alive().forEach(a -> head.put(a, a));
        for (int a : alive()) {
            for (int b : alive()) {
                if (apart(a, b) <= d) {
                    int from = head.get(a);
                    int to = head.get(b);
                    head.replaceAll((k, v) -> v == from ? to : v);
                }
            }
        }
        return new HashSet<>(head.values()).size();
    }

    int far(int d, int what) {
        if (d < 0 || d > 6 || what < 0 || what > 1) {
            return -1;
        }
        int all = 0;
        int[] tooNear = new int[14];
        for (int a : alive()) {
            all |= 1 << a;
            for (int b : alive()) {
                tooNear[a] |= a != b && apart(a, b) <= d ? 1 << b : 0;
            }
        }
        int best = 0;
        for (int set = 0; set < 1 << 14; set++) {
            boolean far = (set & ~all) == 0 && Integer.bitCount(set) > Integer.bitCount(best);
            for (int a = 0; far && a < 14; a++) {
                far = (set >> a & 1) == 0 || (set & tooNear[a]) == 0;
            }
            best = far ? set : best;
        }
        return what == 0 ? Integer.bitCount(best) : best;
    }

    int middle() {
        int best = -1;
        int least = Integer.MAX_VALUE;
        for (int a : alive()) {
            int sum = alive().stream().mapToInt(b -> apart(a, b)).sum();
            if (sum < least) {
                least = sum;
                best = a;
            }
        }
        return best;
    }

    int chain(int from, int to, int d) {
        if (!isEntry(from) || !isEntry(to) || d < 0 || d > 6) {
            return -1;
        }
        Map<Integer, Integer> steps = new HashMap<>();
        List<Integer> open = new ArrayList<>(List.of(from));
        steps.put(from, 0);
        for (int i = 0; i < open.size(); i++) {
            int a = open.get(i);
            for (int b : alive()) {
                if (!steps.containsKey(b) && apart(a, b) <= d) {
                    steps.put(b, steps.get(a) + 1);
                    open.add(b);
                }
            }
        }
        return steps.getOrDefault(to, -1);
    }

    int begins(int spelling) {
        int best = -1;
        for (int a : alive()) {
            if (can(spelling) != null && spelled(a).startsWith(can(spelling)) && (best < 0 || used(a) > used(best))) {
                best = a;
            }
        }
        return best;
    }

    int crowded(int d) {
        if (d < 0 || d > 6) {
            return -1;
        }
        return (int) alive().stream().filter(a -> alive().stream().anyMatch(b -> !a.equals(b) && apart(a, b) <= d)).count();
    }

    int load(int bucket) {
        if (bucket < 0 || bucket >= book.buckets) {
            return -1;
        }
        return (int) alive().stream().flatMap(a -> formsOf(spelled(a)).stream()).filter(f -> bucketOf(f) == bucket).count();
    }

    int fullest() {
        int best = 0;
        for (int b = 1; b < book.buckets; b++) {
            best = load(b) > load(best) ? b : best;
        }
        return best;
    }

    int store() {
        return law(book.errors);
    }

    int clashes() {
        Set<String> forms = new TreeSet<>();
        alive().forEach(a -> forms.addAll(formsOf(spelled(a))));
        int pairs = 0;
        for (String f : forms) {
            for (String g : forms) {
                pairs += f.compareTo(g) < 0 && bucketOf(f) == bucketOf(g) ? 1 : 0;
            }
        }
        return pairs;
    }

    int rarest() {
        int best = -1;
        int most = -1;
        for (int a : alive()) {
            Set<String> forms = formsOf(spelled(a));
            alive().stream().filter(b -> b != a).forEach(b -> forms.removeAll(formsOf(spelled(b))));
            if (forms.size() > most) {
                most = forms.size();
                best = a;
            }
        }
        return best;
    }

    int law(int n) {
        return n < 0 || n > 2 ? -1 : alive().stream().mapToInt(a -> formsOf(spelled(a), n).size()).sum();
    }

    int odds(int n, int part) {
        if (n < 0 || n > 4 || part < 0 || part > 1) {
            return -1;
        }
        java.math.BigInteger upper = java.math.BigInteger.valueOf(100 - book.slips).pow(n);
        java.math.BigInteger lower = java.math.BigInteger.valueOf(100).pow(n);
        java.math.BigInteger by = upper.gcd(lower);
        return (part == 0 ? upper : lower).divide(by).intValueExact();
    }

    int lies(int i) {
        return i >= 0 && i < lying.size() ? lying.get(i) : -2;
    }

    int seen(int spelling, int d, boolean is) {
        if (can(spelling) == null || d < 0 || d > 6 || seen.size() == 30 || book.names.isEmpty()) {
            return -1;
        }
        seen.add(new Seen(can(spelling), d, is, time, null));
        return seen.size() - 1;
    }

    int untell(int n) {
        if (n < 0 || n >= seen.size() || seen.get(n).untold() != null) {
            return 0;
        }
        Seen s = seen.get(n);
        seen.set(n, new Seen(s.spelling(), s.d(), s.is(), s.told(), time));
        return 1;
    }

    int later(int by) {
        if (by < 0 || by > 1000 || time + by > 100000) {
            return -1;
        }
        time += by;
        return time;
    }

    int fits(int k) {
        int bits = 0;
        for (int w = 0; w < book.names.size(); w++) {
            String name = book.names.get(w);
            boolean all = seen.stream().filter(s -> s.told() <= k && (s.untold() == null || s.untold() > k))
                .allMatch(s -> distanceOf(name, s.spelling()) <= s.d() == s.is());
            bits |= all ? 1 << w : 0;
        }
        return bits;
    }

    int ask(int what, int k) {
        int fits = fits(k);
        if (fits == 0 || what < 0 || what > 1) {
            return -1;
        }
        int best = -1;
        int least = 99;
        for (int w = 0; w < book.names.size(); w++) {
            int most = 0;
            for (int d = 0; d <= 6; d++) {
                int left = 0;
                for (int v = 0; v < book.names.size(); v++) {
                    left += (fits >> v & 1) == 1 && distanceOf(book.names.get(w), book.names.get(v)) == d ? 1 : 0;
                }
                most = Math.max(most, left);
            }
            if (most < least) {
                least = most;
                best = w;
            }
        }
        return what == 0 ? best : least;
    }

    int image(int box) {
        if (box < 0 || box > 2) {
            return -1;
        }
        boxes[box] = now;
        return alive().size();
    }

    int back(int box) {
        if (box < 0 || box > 2 || boxes[box] == null) {
            return -1;
        }
        now = boxes[box];
        before.clear();
        after.clear();
        return alive().size();
    }

    int about(int what) {
        int[] all = {book.names.size(), alive().size(), now.entries().size(), now.phrase().size(), book.prefix, book.errors,
            book.buckets, now.seed(), before.size(), after.size(), seen.size(), time, tape.length, book.units, lying.size(), book.slips};
        return what < 0 || what > 15 ? -1 : all[what];
    }
}

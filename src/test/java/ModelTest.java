import java.util.Random;

/** Random runs of calls, each answer compared with what the Model says. */
public final class ModelTest {
    private static final String[] UNITS = {"total", "length", "first", "last", "0", "1", "7", "13", "9999"};
    private static final String[] JUNK = {";", "(", ")", "<", ">", "=", "+", "-", "*", "/", "%", "word", "prefix", "errors", "hash",
        "buckets", "slips", "draw", "or", "and", "not", "total", "length", "first", "last", "ab", "abcdefg", "abcdefghi", "0", "7", "1000",
        "12345", "5a", "$", "A", "\t", " ", "\n", "\u00e9", "\u0000"};

    private final Check check = new Check();
    private final Random random;
    private NearSpell x;
    private Model m;
    private String trail = "";

    private ModelTest(long seed) {
        random = new Random(seed);
    }

    public static void main(String[] args) {
        int runs = args.length > 0 ? Integer.parseInt(args[0]) : 400;
        int from = args.length > 1 ? Integer.parseInt(args[1]) : 1;
        ModelTest all = new ModelTest(from);
        for (int run = 0; run < runs; run++) {
            all.run("run " + (from + run) + ": ");
        }
        all.parseMany(runs * 50);
        all.check.finish();
    }

    private void run(String name) {
        trail = name;
        x = new NearSpell();
        m = new Model();
        int calls = 0;
        if (random.nextInt(10) > 0) {
            tell(random.nextInt(4) > 0 ? goodBook() : spoilt(goodBook()));
        }
        while (calls < 300) {
            if (random.nextInt(100) == 0) {
                tell(random.nextBoolean() ? goodBook() : spoilt(goodBook()));
            }
            call(random.nextInt(47));
            calls++;
        }
    }

    private void parseMany(int texts) {
        trail = "text ";
        for (int i = 0; i < texts; i++) {
            x = new NearSpell();
            m = new Model();
            String text = goodBook();
            for (int k = random.nextInt(4); k > 0; k--) {
                text = spoilt(text);
            }
            tell(text);
        }
    }

    private void tell(String text) {
        int end = Math.min(text.length(), 1600);
        same("end(0)", x.end(0), m.end(0));
        for (int at = 0; at < end; at += 20) {
            int[] n = new int[5];
            for (int i = 0; i < 20; i++) {
                n[i / 4] = n[i / 4] << 8 | (at + i < end ? text.charAt(at + i) & 255 : 32);
            }
            same("feed", x.feed(n[0], n[1], n[2], n[3], n[4]), m.feed(n));
        }
        same("end", x.end(end), m.end(end));
        String call = "book() of " + text.replace("\n", "\\n");
        same(call, x.book(), m.book());
        same("fault(0) of " + call, x.fault(0), m.fault(0));
        same("fault(1) of " + call, x.fault(1), m.fault(1));
        for (int i = 0; i < 16; i++) {
            same("about(" + i + ")", x.about(i), m.about(i));
        }
    }

    private String name(int letters, int most) {
        StringBuilder text = new StringBuilder();
        for (int i = random.nextInt(most); i >= 0; i--) {
            text.append((char) ('a' + random.nextInt(letters)));
        }
        return text.toString();
    }

    private String blank() {
        return random.nextInt(3) == 0 ? "" : random.nextInt(5) == 0 ? "\n" : " ";
    }

    private String formula(int depth) {
        StringBuilder text = new StringBuilder();
        int kind = random.nextInt(depth > 5 ? 2 : 12);
        String[] signs = {"+", "-", "*", "/", "%", "<", ">", "=", " and ", " or "};
        switch (kind) {
            case 0, 1, 2:
                return UNITS[random.nextInt(UNITS.length)];
            case 3:
                return "( " + formula(depth + 1) + ")";
            case 4:
                return "not " + formula(depth + 1);
            default:
                String sign = signs[random.nextInt(signs.length)];
                text.append(random.nextBoolean() ? "(" + formula(depth + 1) + ")" : UNITS[random.nextInt(UNITS.length)]);
                text.append(blank()).append(sign).append(blank());
                text.append(random.nextBoolean() ? "(" + formula(depth + 1) + ")" : formula(depth + 2));
                return text.toString();
        }
    }

    private String goodBook() {
        StringBuilder text = new StringBuilder();
        java.util.LinkedHashSet<String> names = new java.util.LinkedHashSet<>();
        int letters = 2 + random.nextInt(4);
        for (int i = random.nextInt(11); i > 0; i--) {
            String name = name(letters, 6);
            if (!Model.OWN.contains(name) && names.add(name)) {
                text.append("word ").append(name).append(blank()).append(random.nextInt(random.nextBoolean() ? 4 : 1000));
                text.append(blank()).append(";").append(blank());
            }
        }
        String[] lines = {"prefix " + (1 + random.nextInt(6)), "errors " + random.nextInt(3), "hash " + formula(0),
            "buckets " + (1 + random.nextInt(31)), "slips " + random.nextInt(101), "draw " + random.nextInt(1000)};
        for (String line : lines) {
            if (random.nextInt(3) > 0) {
                text.insert(random.nextBoolean() ? 0 : text.length(), line + blank() + ";" + blank());
            }
        }
        return text.toString();
    }

    private String spoilt(String text) {
        int at = random.nextInt(text.length() + 1);
        int kind = random.nextInt(4);
        if (kind == 0) {
            return text.substring(0, at);
        }
        int to = kind == 1 ? Math.min(text.length(), at + 1 + random.nextInt(6)) : at;
        return text.substring(0, at) + JUNK[random.nextInt(JUNK.length)] + (kind == 3 ? " " : "") + text.substring(to);
    }

    private int spelling() {
        int kind = random.nextInt(20);
        if (kind == 0) {
            int[] odd = {-1, 27, 387420489, 387420488, Integer.MIN_VALUE, Integer.MAX_VALUE, 729, 28 * 27, 0};
            return odd[random.nextInt(odd.length)];
        }
        int number = m.now.entries().size();
        if (kind < 8 && number > 0) {
            return Check.s(slightly(m.spelled(random.nextInt(number))));
        }
        return Check.s(random.nextInt(20) == 0 ? "" : name(5, 6));
    }

    private String slightly(String text) {
        StringBuilder changed = new StringBuilder(text);
        for (int i = random.nextInt(3); i > 0; i--) {
            int at = random.nextInt(changed.length() + 1);
            if (random.nextBoolean() && changed.length() < 6) {
                changed.insert(at, (char) ('a' + random.nextInt(4)));
            } else if (at < changed.length()) {
                changed.deleteCharAt(at);
            }
        }
        return changed.toString();
    }

    private int small(int below) {
        int kind = random.nextInt(30);
        if (kind == 0) {
            return random.nextBoolean() ? -1 : random.nextInt();
        }
        return kind == 1 ? below : random.nextInt(below);
    }

    private void same(String call, int got, int want) {
        check.due(trail + call, got, want);
    }

    private void same(String call, boolean got, int want) {
        check.due(trail + call, got ? 1 : 0, want);
    }

    private void call(int which) {
        if (which < 14) {
            callActs(which);
        } else if (which < 30) {
            callFinding(which);
        } else {
            callRest(which);
        }
    }

    private void callActs(int which) {
        int s = spelling();
        int entry = small(14);
        int used = small(1000);
        switch (which) {
            case 0, 1:
                same("learn(" + s + ", " + used + ")", x.learn(s, used), m.learn(s, used));
                break;
            case 2:
                same("forget(" + entry + ")", x.forget(entry), m.forget(entry));
                break;
            case 3:
                same("use(" + entry + ")", x.use(entry), m.use(entry));
                break;
            case 4, 5:
                same("type(" + s + ")", x.type(s), m.type(s));
                break;
            case 6:
                if (random.nextInt(3) == 0) {
                    same("wipe()", x.wipe(), m.wipe());
                }
                break;
            case 7:
                for (int i = random.nextInt(random.nextInt(10) == 0 ? 60 : 4); i > 0; i--) {
                    same("undo()", x.undo(), m.undo());
                }
                break;
            case 8:
                for (int i = random.nextInt(random.nextInt(10) == 0 ? 60 : 4); i > 0; i--) {
                    same("redo()", x.redo(), m.redo());
                }
                break;
            case 9:
                for (int i = random.nextInt(50); i > 0; i--) {
                    same("use(0)", x.use(0), m.use(0));
                }
                break;
            case 10:
                int box = small(3);
                same("image(" + box + ")", x.image(box), m.image(box));
                break;
            case 11:
                int from = small(3);
                if (random.nextInt(3) == 0) {
                    same("back(" + from + ")", x.back(from), m.back(from));
                }
                break;
            case 12:
                int what = small(4);
                same("entry(" + entry + ", " + what + ")", x.entry(entry, what), m.entry(entry, what));
                break;
            default:
                int about = small(16);
                same("about(" + about + ")", x.about(about), m.about(about));
                break;
        }
    }

    private void callFinding(int which) {
        int s = spelling();
        int t = spelling();
        int d = small(7);
        int what = small(3);
        switch (which) {
            case 14 -> same("typed(" + d + ")", x.typed(d), m.typed(d));
            case 15 -> same("distance(" + s + ", " + t + ")", x.distance(s, t), m.distance(s, t));
            case 16 -> {
                same("forms(" + s + ")", x.forms(s), m.forms(s));
                lie();
            }
            case 17 -> same("bucket(" + s + ")", x.bucket(s), m.bucket(s));
            case 18 -> same("met(" + s + ", " + what + ")", x.met(s, what), m.met(s, what));
            case 19 -> same("missed(" + s + ", " + d + ")", x.missed(s, d), m.missed(s, d));
            case 20 -> same("nearest(" + s + ")", x.nearest(s), m.nearest(s));
            case 21 -> {
                same("near(" + s + ", " + d + ")", x.near(s, d), m.near(s, d));
                lie();
            }
            case 22 -> same("split(" + s + ", " + what + ")", x.split(s, what), m.split(s, what));
            case 23 -> same("join(" + d + ", " + what + ")", x.join(d, what), m.join(d, what));
            case 24 -> same("reading()", x.reading(), m.reading());
            case 25 -> same("readings()", x.readings(), m.readings());
            case 26 -> same("closest(" + what + ")", x.closest(what), m.closest(what));
            case 27 -> same("groups(" + d + ")", x.groups(d), m.groups(d));
            case 28 -> same("far(" + d + ", " + what + ")", x.far(d, what), m.far(d, what));
            default -> same("middle()", x.middle(), m.middle());
        }
    }

    private void lie() {
        for (int i = -1; i < 23; i++) {
            same("lies(" + i + ")", x.lies(i), m.lies(i));
        }
    }

    private void callRest(int which) {
        int s = spelling();
        int d = small(7);
        int a = small(14);
        int b = small(14);
        int what = small(2);
        int k = random.nextInt(20) == 0 ? random.nextInt() : random.nextInt(m.time + 2) - 1;
        switch (which) {
            case 30 -> same("chain(" + a + ", " + b + ", " + d + ")", x.chain(a, b, d), m.chain(a, b, d));
            case 31 -> same("begins(" + s + ")", x.begins(s), m.begins(s));
            case 32 -> same("crowded(" + d + ")", x.crowded(d), m.crowded(d));
            case 33 -> {
                int bucket = small(31);
                same("load(" + bucket + ")", x.load(bucket), m.load(bucket));
            }
            case 34 -> same("fullest()", x.fullest(), m.fullest());
            case 35 -> same("store()", x.store(), m.store());
            case 36 -> same("clashes()", x.clashes(), m.clashes());
            case 37 -> same("rarest()", x.rarest(), m.rarest());
            case 38 -> same("law(" + what + ")", x.law(what), m.law(what));
            case 39 -> same("odds(" + d + ", " + what + ")", x.odds(d, what), m.odds(d, what));
            case 40 -> same("lies(" + d + ")", x.lies(d), m.lies(d));
            case 41 -> {
                boolean is = random.nextBoolean();
                same("seen(" + s + ", " + d + ", " + is + ")", x.seen(s, d, is), m.seen(s, d, is));
            }
            case 42 -> same("untell(" + a + ")", x.untell(a), m.untell(a));
            case 43 -> {
                int by = random.nextInt(10) == 0 ? small(1001) : random.nextInt(3);
                same("later(" + by + ")", x.later(by), m.later(by));
            }
            case 44 -> same("fits(" + k + ")", x.fits(k), m.fits(k));
            case 45 -> same("ask(" + what + ", " + k + ")", x.ask(what, k), m.ask(what, k));
            default -> {
                int fault = small(2);
                same("fault(" + fault + ")", x.fault(fault), m.fault(fault));
            }
        }
    }
}

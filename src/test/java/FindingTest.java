/** Promises 15 to 25: distances, forms, who is met, splits, joins and readings. */
public final class FindingTest {
    private static final Check CHECK = new Check();

    public static void main(String[] args) {
        distance();
        forms();
        bucket();
        met();
        missed();
        nearest();
        near();
        split();
        join();
        reading();
        readings();
        CHECK.finish();
    }

    private static void due(String call, long got, long want) {
        CHECK.due(call, got, want);
    }

    private static int s(String letters) {
        return Check.s(letters);
    }

    private static void distance(String a, String b, int want) {
        NearSpell x = new NearSpell();
        due("15: distance of " + a + " and " + b, x.distance(s(a), s(b)), want);
        due("15: distance of " + b + " and " + a, x.distance(s(b), s(a)), want);
    }

    private static void distance() {
        distance("", "", 0);
        distance("abc", "abc", 0);
        distance("", "abcdef", 6);
        distance("abc", "abcd", 1);
        distance("abc", "bc", 1);
        distance("abc", "axc", 1);
        distance("abc", "bac", 1);
        distance("abcd", "badc", 2);
        // Two that were swapped take nothing between them, and neither is changed.
        distance("ca", "abc", 3);
        distance("ab", "bxa", 3);
        distance("abcdef", "fedcba", 5);
        distance("abcdef", "uvwxyz", 6);
        distance("aab", "aba", 1);
        distance("kitten", "sittin", 2);
        NearSpell x = new NearSpell();
        due("15: can't be", x.distance(27, 1), -1);
        due("15: the other can't be", x.distance(1, 387420489), -1);
        due("15: below 0", x.distance(-1, 1), -1);
    }

    private static void lie(String call, NearSpell x, int... want) {
        for (int i = 0; i < want.length; i++) {
            due(call + ": lies(" + i + ")", x.lies(i), want[i]);
        }
        due(call + ": nothing behind", x.lies(want.length), -2);
        due(call + ": about(14)", x.about(14), want.length);
    }

    private static void forms() {
        NearSpell x = new NearSpell();
        due("16: abab", x.forms(s("abab")), 9);
        lie("16: abab", x, s("aa"), s("ab"), s("ba"), s("bb"), s("aab"), s("aba"), s("abb"), s("bab"), s("abab"));
        due("16: only the beginning counts", x.forms(s("ababzz")), 9);
        due("16: aa", x.forms(s("aa")), 3);
        lie("16: aa", x, 0, 1, s("aa"));
        due("16: the empty one", x.forms(0), 1);
        lie("16: the empty one", x, 0);
        due("16: can't be", x.forms(27), -1);
        lie("16: can't be", x);
        NearSpell y = Check.told("prefix 6;");
        due("16: 22 at the most", y.forms(s("abcdef")), 22);
        due("16: the last", y.lies(21), s("abcdef"));
        Check.book(y, "prefix 5;");
        due("16: by another prefix", y.forms(s("abcdef")), 16);
        Check.book(y, "prefix 5;errors 1;");
        due("16: by other errors", y.forms(s("abcdef")), 6);
        NearSpell z = Check.told("prefix 2;errors 0;");
        due("16: no errors", z.forms(s("abc")), 1);
        lie("16: no errors", z, s("ab"));
        NearSpell w = Check.told("prefix 3;errors 1;");
        due("16: one error", w.forms(s("abcd")), 4);
        lie("16: one error", w, s("ab"), s("ac"), s("bc"), s("abc"));
    }

    private static void bucket(String hash, String form, int want) {
        NearSpell x = Check.told("hash " + hash + ";buckets 31;");
        due("17: bucket of " + form + " by " + hash, x.bucket(s(form)), want);
    }

    private static void bucket() {
        bucket("total", "abc", 6);
        bucket("length", "abc", 3);
        bucket("first", "cab", 3);
        bucket("last", "cab", 2);
        bucket("first + last * 2 + total * 4 + length * 8", "", 0);
        bucket("2 + 3 * 4", "", 14);
        bucket("(2 + 3) * 4", "", 20);
        bucket("20 - 5 - 3", "", 12);
        bucket("20 / 5 / 2", "", 2);
        bucket("20 / 5 * 2", "", 8);
        bucket("17 % 10 % 4", "", 3);
        bucket("0 - 1", "", 30);
        bucket("0 - 31", "", 0);
        bucket("(0 - 7) / 2", "", 28);
        bucket("(0 - 7) % 4", "", 28);
        bucket("7 / 0", "", 0);
        bucket("7 % 0", "", 0);
        bucket("5 < 6", "", 1);
        bucket("6 < 6", "", 0);
        bucket("6 > 5", "", 1);
        bucket("6 > 6", "", 0);
        bucket("6 = 6", "", 1);
        bucket("6 = 5", "", 0);
        bucket("5 and 7", "", 1);
        bucket("5 and 0", "", 0);
        bucket("0 or 7", "", 1);
        bucket("0 or 0", "", 0);
        bucket("not 5", "", 0);
        bucket("not 0", "", 1);
        bucket("not 5 < 3", "", 1);
        bucket("1 or 1 and 0", "", 1);
        bucket("(1 or 1) and 0", "", 0);
        bucket("not 0 and 0", "", 0);
        bucket("9999 * 9999 * 9999", "", (int) Math.floorMod((long) (9999 * 9999 * 9999), 31L));
        NearSpell x = Check.told("buckets 5;");
        due("17: hash not told", x.bucket(s("zzzzzz")), (26 * 6 * 7 + 6) % 5);
        due("17: more letters than prefix", x.bucket(s("abcdef")), (21 * 7 + 6) % 5);
        due("17: the empty one", x.bucket(0), 0);
        due("17: can't be", x.bucket(27), -1);
        due("17: below 0", x.bucket(-5), -1);
    }

    private static void met() {
        // Buckets by length alone: abc has forms of 2 and 3 letters there, x one of 1.
        NearSpell x = Check.told("word abc 1;word xyz 1;word x 1;word ab 2;prefix 3;errors 1;hash length;");
        due("18: met", x.met(s("abd"), 0), 0b1011);
        due("18: truly met", x.met(s("abd"), 1), 0b1001);
        due("18: falsely met", x.met(s("abd"), 2), 0b0010);
        due("18: only the empty form", x.met(0, 0), 0b0100);
        due("18: truly", x.met(0, 1), 0b0100);
        due("18: what 3", x.met(s("abd"), 3), -1);
        due("18: what -1", x.met(s("abd"), -1), -1);
        due("18: can't be", x.met(27, 0), -1);
        x.forget(0);
        due("18: a forgotten one", x.met(s("abd"), 0), 0b1010);
    }

    private static void missed() {
        NearSpell x = Check.told("word abc 1;word axx 1;word xxx 1;prefix 3;errors 1;");
        due("19: within 3", x.missed(s("abd"), 3), 0b110);
        due("19: within 2", x.missed(s("abd"), 2), 0b010);
        due("19: within 1", x.missed(s("abd"), 1), 0);
        due("19: d 7", x.missed(s("abd"), 7), -1);
        due("19: d -1", x.missed(s("abd"), -1), -1);
        due("19: can't be", x.missed(27, 1), -1);
    }

    private static void nearest() {
        NearSpell x = Check.told("word abcd 9;word abc 3;word abd 7;word abe 7;");
        due("20: the least distance", x.nearest(s("abc")), 1);
        due("20: then the most used", x.nearest(s("abf")), 2);
        due("20: then the least number", x.nearest(s("ab")), 2);
        x.use(1);
        x.use(1);
        x.use(1);
        x.use(1);
        x.use(1);
        due("20: by what is now", x.nearest(s("abf")), 1);
        due("20: none truly met", x.nearest(s("xyzw")), -1);
        due("20: can't be", x.nearest(27), -1);
        // At a distance of 1, but by prefix 1 and no errors not met.
        NearSpell y = Check.told("word abc 1;prefix 1;errors 0;");
        due("20: near, but not met", y.nearest(s("xbc")), -1);
        due("20: far, but met", y.nearest(s("axyzuv")), 0);
    }

    private static void near() {
        NearSpell x = Check.told("word abcd 9;word abc 3;word abd 7;word abe 7;word xyz 1;");
        due("21: within 1", x.near(s("abf"), 1), 3);
        lie("21: within 1", x, 2, 3, 1);
        due("21: within 2", x.near(s("abf"), 2), 4);
        lie("21: within 2", x, 2, 3, 1, 0);
        due("21: within 0", x.near(s("abf"), 0), 0);
        lie("21: within 0", x);
        due("21: within 0, itself", x.near(s("abc"), 0), 1);
        lie("21: itself", x, 1);
        due("21: d 7", x.near(s("abc"), 7), -1);
        lie("21: d 7", x);
        x.near(s("abc"), 6);
        due("21: can't be", x.near(27, 1), -1);
        lie("21: can't be", x);
        due("40: below 0", x.lies(-1), -2);
    }

    private static void split() {
        NearSpell x = Check.told("word at 1;word cat 1;word s 1;");
        due("22: first", x.split(s("cats"), 0), 1);
        due("22: other", x.split(s("cats"), 1), 2);
        due("22: distance", x.split(s("cats"), 2), 0);
        due("22: the same twice", x.split(s("catcat"), 0) * 10 + x.split(s("catcat"), 1), 11);
        due("22: swapped over the border", x.split(s("casta"), 2), 2);
        due("22: of like ones the first", x.split(0, 0) * 10 + x.split(0, 1), 22);
        due("22: its distance", x.split(0, 2), 2);
        due("22: what 3", x.split(s("cats"), 3), -1);
        due("22: what -1", x.split(s("cats"), -1), -1);
        due("22: can't be", x.split(27, 0), -1);
        x.forget(2);
        due("22: not with a forgotten one", x.split(s("cats"), 2), 2);
        due("22: no entries", new NearSpell().split(1, 0), -1);
        NearSpell y = Check.told("word ab 1;word ba 1;");
        due("22: a swap of both words", y.split(s("aabb"), 2), 1);
        due("22: the first", y.split(s("aabb"), 0) * 10 + y.split(s("aabb"), 1), 0);
    }

    private static void join() {
        NearSpell x = Check.told("word cart 1;word cat 1;word abcdef 1;");
        x.type(s("c"));
        x.type(s("at"));
        x.type(s("zzzzzz"));
        x.type(s("yyyyyy"));
        due("23: the entry", x.join(0, 0), 1);
        due("23: the distance", x.join(0, 1), 0);
        due("23: twelve letters", x.join(2, 1), 12);
        due("23: of like ones the first", x.join(2, 0), 0);
        due("23: the last has no next one", x.join(3, 0), -1);
        due("23: below 0", x.join(-1, 0), -1);
        due("23: far above", x.join(Integer.MAX_VALUE, 0), -1);
        due("23: far below", x.join(Integer.MIN_VALUE, 0), -1);
        due("23: what 2", x.join(0, 2), -1);
        due("23: what -1", x.join(0, -1), -1);
        x.forget(0);
        x.forget(1);
        x.forget(2);
        due("23: no entries", x.join(0, 0), -1);
    }

    private static void reading() {
        NearSpell x = Check.told("word cat 1;word dog 1;");
        due("24: nothing typed", x.reading(), 0);
        x.type(s("cat"));
        x.type(s("dg"));
        due("24: one by one", x.reading(), 1);
        x.wipe();
        x.type(s("catdog"));
        due("24: for two, and 1", x.reading(), 1);
        x.wipe();
        x.type(s("ca"));
        x.type(s("t"));
        due("24: joined, and 1", x.reading(), 1);
        x.type(s("d"));
        x.type(s("og"));
        due("24: joined twice", x.reading(), 2);
        x.forget(0);
        x.forget(1);
        due("24: no entries", x.reading(), -1);
        due("25: no entries", x.readings(), -1);
        x.wipe();
        due("24: nothing typed, no entries", x.reading(), 0);
        due("25: nothing typed, no entries", x.readings(), 1);
    }

    private static void readings() {
        NearSpell x = Check.told("word a 1;word b 1;");
        due("25: nothing typed", x.readings(), 1);
        x.type(s("a"));
        due("25: a alone", x.readings(), 1);
        x.wipe();
        x.type(s("c"));
        due("25: a or b", x.reading() * 100 + x.readings(), 102);
        x.wipe();
        x.type(s("ab"));
        // a (1), b (1), a and b together (0, and 1).
        due("25: one or two", x.reading() * 100 + x.readings(), 103);
        x.wipe();
        x.type(0);
        x.type(s("c"));
        // One by one 1 + 1 in 2 * 2 ways; joined 1 + 1 in 2 ways.
        due("25: pieces unlike", x.reading() * 100 + x.readings(), 206);
        // Joined ones would cost 2 and 1 for what costs 2 one by one.
        NearSpell y = new NearSpell();
        for (int i = 1; i <= 14; i++) {
            y.learn(i, 0);
        }
        for (int i = 0; i < 6; i++) {
            y.type(s("z"));
        }
        due("25: fourteen to the sixth", y.readings(), 7529536);
        due("24: six", y.reading(), 6);
    }
}

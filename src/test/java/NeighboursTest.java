/** Promises 26 to 32: entries by their distances from one another, and beginnings. */
public final class NeighboursTest {
    private static final Check CHECK = new Check();

    public static void main(String[] args) {
        closest();
        groups();
        far();
        middle();
        chain();
        begins();
        crowded();
        CHECK.finish();
    }

    private static void due(String call, long got, long want) {
        CHECK.due(call, got, want);
    }

    private static int s(String letters) {
        return Check.s(letters);
    }

    private static void closest() {
        NearSpell x = Check.told("word aaaa 1;word bbbb 1;word bbbc 1;word bbcc 1;word aa 1;");
        due("26: the first", x.closest(0), 1);
        due("26: the other", x.closest(1), 2);
        due("26: the distance", x.closest(2), 1);
        due("26: what 3", x.closest(3), -1);
        due("26: what -1", x.closest(-1), -1);
        x.forget(2);
        due("26: then the first of like ones", x.closest(0) * 10 + x.closest(1), 4);
        due("26: then the distance", x.closest(2), 2);
        x.forget(0);
        x.forget(1);
        x.forget(3);
        due("26: not two", x.closest(0), -1);
        due("26: not two, distance", x.closest(2), -1);
        NearSpell y = Check.told("word abcdef 1;word uvwxyz 1;");
        due("26: six apart", y.closest(2), 6);
    }

    private static void groups() {
        // A chain aaa - aab - abb - bbb, each a letter on, and one far away.
        NearSpell x = Check.told("word aaa 1;word bbb 1;word aab 1;word zzzzzz 1;word abb 1;");
        due("27: by 0", x.groups(0), 5);
        due("27: by 1", x.groups(1), 2);
        due("27: by 5", x.groups(5), 2);
        due("27: by 6", x.groups(6), 1);
        due("27: by 7", x.groups(7), -1);
        due("27: by -1", x.groups(-1), -1);
        x.forget(2);
        due("27: one of the chain forgotten", x.groups(1), 3);
        due("27: none", new NearSpell().groups(0), 0);
    }

    private static void far() {
        NearSpell x = Check.told("word aaa 1;word aab 1;word abb 1;word bbb 1;");
        due("28: by 0", x.far(0, 0) * 100 + x.far(0, 1), 400 + 15);
        due("28: by 1: the least set", x.far(1, 0) * 100 + x.far(1, 1), 200 + 0b0101);
        due("28: by 2", x.far(2, 0) * 100 + x.far(2, 1), 200 + 0b1001);
        due("28: by 3: the first alone", x.far(3, 0) * 100 + x.far(3, 1), 100 + 1);
        x.forget(0);
        due("28: by 1 without the first", x.far(1, 0) * 100 + x.far(1, 1), 200 + 0b1010);
        due("28: what 2", x.far(1, 2), -1);
        due("28: what -1", x.far(1, -1), -1);
        due("28: by 7", x.far(7, 0), -1);
        due("28: by -1", x.far(-1, 0), -1);
        // Least as bits, not by its first number: 0 and 4, or 1 and 2 and 3 at the most.
        NearSpell y = Check.told("word abcdef 1;word abcd 1;word cdef 1;word adef 1;");
        due("28: more come without the first", y.far(2, 0) * 100 + y.far(2, 1), 200 + 0b0110);
        due("28: none", new NearSpell().far(1, 0), 0);
        due("28: none, as bits", new NearSpell().far(1, 1), 0);
    }

    private static void middle() {
        NearSpell x = Check.told("word aaa 1;word abb 1;word bbb 1;word aab 1;");
        due("29: of like ones the first", x.middle(), 1);
        x.forget(1);
        due("29: then", x.middle(), 3);
        due("29: none", new NearSpell().middle(), -1);
        due("29: one alone", Check.told("word ab 1;").middle(), 0);
    }

    private static void chain() {
        NearSpell x = Check.told("word aaa 1;word bbb 1;word aab 1;word zzzzzz 1;word abb 1;");
        due("30: three steps", x.chain(0, 1, 1), 3);
        due("30: back", x.chain(1, 0, 1), 3);
        due("30: two", x.chain(0, 1, 2), 2);
        due("30: one", x.chain(0, 1, 3), 1);
        due("30: to itself", x.chain(3, 3, 0), 0);
        due("30: none", x.chain(0, 3, 5), -1);
        due("30: by 6", x.chain(0, 3, 6), 1);
        due("30: by 7", x.chain(0, 1, 7), -1);
        due("30: by -1", x.chain(0, 0, -1), -1);
        due("30: no entry", x.chain(5, 0, 1), -1);
        due("30: no other", x.chain(0, -1, 1), -1);
        due("30: neither", x.chain(5, 5, 1), -1);
        x.forget(2);
        due("30: not over a forgotten one", x.chain(0, 1, 1), -1);
        due("30: not from it", x.chain(2, 2, 1), -1);
    }

    private static void begins() {
        NearSpell x = Check.told("word abc 5;word abcd 7;word ab 7;word b 9;");
        due("31: the most used, the first", x.begins(s("ab")), 1);
        due("31: it itself", x.begins(s("abcd")), 1);
        due("31: longer than all", x.begins(s("abcde")), -1);
        due("31: all begin so", x.begins(0), 3);
        due("31: within is not at the beginning", x.begins(s("c")), -1);
        due("31: can't be", x.begins(27), -1);
        x.forget(1);
        due("31: a forgotten one", x.begins(s("abc")), 0);
        due("31: none", new NearSpell().begins(0), -1);
    }

    private static void crowded() {
        NearSpell x = Check.told("word aaa 1;word aab 1;word bbb 1;word zzzzzz 1;");
        due("32: by 0", x.crowded(0), 0);
        due("32: by 1", x.crowded(1), 2);
        due("32: by 2", x.crowded(2), 3);
        due("32: by 6", x.crowded(6), 4);
        due("32: by 7", x.crowded(7), -1);
        due("32: by -1", x.crowded(-1), -1);
        x.forget(1);
        due("32: without one", x.crowded(2), 0);
        due("32: none", new NearSpell().crowded(1), 0);
    }
}

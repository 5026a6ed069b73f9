/** What section 3 says of like ones, of none, of the same one twice, and the limits of promises 15 to 39. */
public final class NearEdgesTest {
    private static final Check CHECK = new Check();
    private static final Twins TWINS = new Twins(CHECK);

    public static void main(String[] args) {
        noEntries();
        oneEntry();
        nothingIsDone();
        distances();
        metByNone();
        missedWithin();
        likeNearest();
        nearAtTheEdges();
        splits();
        joins();
        readings();
        readingsWrap();
        likePairs();
        groupsAndCrowds();
        farSets();
        middles();
        chains();
        beginnings();
        loads();
        rarestAndLaw();
        odds();
        CHECK.finish();
    }

    private static void due(String call, long got, long want) {
        CHECK.due(call, got, want);
    }

    private static int s(String letters) {
        return Check.s(letters);
    }

    /** A new object, and one whose ENTRIES are all forgotten. */
    private static void noEntries() {
        NearSpell forgotten = Check.told("word ab 1;word cd 2;");
        forgotten.forget(0);
        forgotten.forget(1);
        for (NearSpell x : new NearSpell[] {new NearSpell(), forgotten}) {
            due("6: none such", x.entry(0, 0), -1);
            due("18: none MET", x.met(s("ab"), 0) + x.met(s("ab"), 1) + x.met(s("ab"), 2), 0);
            due("19: none MISSED", x.missed(s("ab"), 6), 0);
            due("20: there is none", x.nearest(s("ab")), -1);
            due("21: how many", x.near(s("ab"), 6), 0);
            due("22: there are no ENTRIES", x.split(s("ab"), 0) + x.split(s("ab"), 1) + x.split(s("ab"), 2), -3);
            due("24: 0 of none typed", x.reading(), 0);
            due("25: with nothing typed 1", x.readings(), 1);
            due("26: there are not two", x.closest(0) + x.closest(1) + x.closest(2), -3);
            due("27: no GROUPS", x.groups(0) + x.groups(6), 0);
            due("28: the most of none", x.far(0, 0) + x.far(6, 0) + x.far(0, 1) + x.far(6, 1), 0);
            due("29: NONE without ENTRIES", x.middle(), -1);
            due("30: one can't be", x.chain(0, 0, 6), -1);
            due("31: there is none", x.begins(0), -1);
            due("32: none", x.crowded(6), 0);
            due("33: none lie there", x.load(0) + x.load(12), 0);
            due("34: of like ones the first", x.fullest(), 0);
            due("35: none", x.store(), 0);
            due("36: none", x.clashes(), 0);
            due("37: NONE without ENTRIES", x.rarest(), -1);
            due("38: none", x.law(0) + x.law(1) + x.law(2), 0);
            due("10: NONE: none", x.type(s("ab")), -1);
            due("24: one typed, no ENTRIES", x.reading(), -1);
            due("25: one typed, no ENTRIES", x.readings(), -1);
            due("10: and another", x.type(s("cd")), -1);
            due("23: no ENTRIES", x.join(0, 0) + x.join(0, 1), -2);
            due("24: NONE without ENTRIES, if something is typed", x.reading(), -1);
            due("25: likewise", x.readings(), -1);
            x.learn(s("ab"), 1);
            due("24: with one", x.reading() >= 0 ? 1 : 0, 1);
        }
    }

    private static void oneEntry() {
        NearSpell x = Check.told("word ab 1;");
        due("26: there are not two", x.closest(0) + x.closest(1) + x.closest(2), -3);
        due("27: one GROUP", x.groups(0) * 10 + x.groups(6), 11);
        due("28: one", x.far(0, 0) * 100 + x.far(6, 0) * 10 + x.far(6, 1), 111);
        due("29: MIDDLE", x.middle(), 0);
        due("30: no steps", x.chain(0, 0, 0), 0);
        due("32: none has another one", x.crowded(6), 0);
        due("37: the only one", x.rarest(), 0);
        due("22: the same one twice", x.split(s("abab"), 0) + x.split(s("abab"), 1) + x.split(s("abab"), 2), 0);
        x.learn(s("uvwxyz"), 1);
        x.forget(0);
        due("26: not two, one forgotten", x.closest(2), -1);
        due("29: MIDDLE then", x.middle(), 1);
        due("28: FAR then", x.far(6, 0) * 10 + x.far(6, 1), 12);
    }

    /** Section 3: by what is now; nothing is done. */
    private static void nothingIsDone() {
        TWINS.nothingDone("15 to 39: nothing is done", NearEdgesTest::way, NearEdgesTest::askAll, 0);
        TWINS.alike("16: they lie there then, nothing else", NearEdgesTest::way, x -> x.forms(s("cat")), x -> {
            x.near(s("cat"), 6);
            return x.forms(s("cat"));
        }, 7);
    }

    private static void way(NearSpell x) {
        Check.book(x, "word cat 5;word cart 3;word at 9;word dog 1;slips 40;draw 7;");
        x.learn(s("act"), 4);
        x.type(s("ca"));
        x.type(s("tdo"));
        x.forget(1);
        x.use(0);
        x.undo();
        x.image(1);
        x.seen(s("cat"), 2, true);
        x.forms(s("dog"));
    }

    private static long askAll(NearSpell x) {
        x.distance(s("cat"), s("dog"));
        x.bucket(s("cat"));
        x.nearest(s("cat"));
        x.reading();
        x.readings();
        x.middle();
        x.begins(s("c"));
        x.load(0);
        x.fullest();
        x.store();
        x.clashes();
        x.rarest();
        x.chain(0, 3, 3);
        x.ask(0, 0);
        x.fits(0);
        x.typed(0);
        x.lies(0);
        for (int what = 0; what < 3; what++) {
            x.met(s("cat"), what);
            x.split(s("cat"), what);
            x.join(0, what);
            x.closest(what);
            x.law(what);
            x.odds(2, what);
        }
        for (int d = 0; d < 7; d++) {
            x.missed(s("cat"), d);
            x.groups(d);
            x.far(d, 0);
            x.far(d, 1);
            x.crowded(d);
        }
        return 0;
    }

    private static void distances() {
        String[][] rows = {{"", "", "0"}, {"", "a", "1"}, {"", "abcdef", "6"}, {"abcdef", "abcdef", "0"}, {"abcdef", "ghijkl", "6"},
            {"abcdef", "badcfe", "3"}, {"ab", "ba", "1"}, {"aa", "aa", "0"}, {"abc", "cab", "2"}, {"ca", "abc", "3"}, {"abcdef", "bcdefa", "2"},
            {"aaaaaa", "a", "5"}, {"abab", "baba", "2"}, {"abcd", "dcba", "3"}, {"ab", "bca", "3"}};
        NearSpell x = new NearSpell();
        for (String[] row : rows) {
            due("15: " + row[0] + " to " + row[1], x.distance(s(row[0]), s(row[1])), Integer.parseInt(row[2]));
            due("15: " + row[1] + " to " + row[0], x.distance(s(row[1]), s(row[0])), Integer.parseInt(row[2]));
        }
    }

    private static void metByNone() {
        NearSpell x = Check.told("word abc 1;word xyz 1;errors 0;buckets 31;hash first;");
        due("18: MET by none", x.met(s("mno"), 0), 0);
        due("18: MET, but not truly", x.met(s("abd"), 2) * 100 + x.met(s("abd"), 0) * 10 + x.met(s("abd"), 1), 110);
        due("18: MET truly", x.met(s("abc"), 0) * 100 + x.met(s("abc"), 1) * 10 + x.met(s("abc"), 2), 110);
        due("18: the empty one by no FORM", x.met(0, 0), 0);
        due("20: NEAREST of those TRULY MET", x.nearest(s("abd")), -1);
        due("21: none", x.near(s("abd"), 6), 0);
        due("19: MISSED all the same", x.missed(s("abd"), 1), 1);
        NearSpell one = Check.told("word abc 1;word xyz 1;buckets 1;errors 0;");
        due("18: in one BUCKET all are MET", one.met(0, 0) * 10 + one.met(0, 2), 33);
        due("18: truly none", one.met(0, 1), 0);
        // 22 FORMS each, none in common but those of abcdef and abcdez.
        NearSpell most = Check.told("word abcdef 1;word uvwxyz 1;word abcdez 1;prefix 6;");
        due("18: of 22 FORMS", most.met(s("uvwxyz"), 1), 0b010);
        due("18: of 22 FORMS, the first and the last", most.met(s("abcdeg"), 1), 0b101);
        due("37: of 22 FORMS", most.rarest(), 1);
        // The same numbers with fewer FORMS: none of those that were.
        due("4: errors 0", Check.book(most, "word abcdef 1;word uvwxyz 1;word abcdez 1;prefix 6;errors 0;"), 3);
        due("18: of one FORM", most.met(s("abcdeg"), 1) + most.met(s("abcd"), 1) + most.met(s("uvwxy"), 1), 0);
        due("37: of one FORM", most.rarest(), 0);
        NearSpell beginning = Check.told("word abcdef 1;word abcduv 1;errors 0;prefix 4;");
        due("18: by their beginnings", beginning.met(s("abcdzz"), 1), 3);
        due("18: not by less than that", beginning.met(s("abc"), 1), 0);
    }

    private static void missedWithin() {
        NearSpell x = Check.told("word abcdef 1;word uvwxyz 1;word ab 1;errors 0;prefix 6;");
        due("19: d 0: itself is met", x.missed(s("abcdef"), 0), 0);
        due("19: d 3", x.missed(s("abcdef"), 3), 0);
        due("19: d 4", x.missed(s("abcdef"), 4), 0b100);
        due("19: d 5", x.missed(s("abcdef"), 5), 0b100);
        due("19: d 6: any", x.missed(s("abcdef"), 6), 0b110);
        x.forget(2);
        due("19: a forgotten one is none", x.missed(s("abcdef"), 6), 0b010);
    }

    private static void likeNearest() {
        NearSpell x = Check.told("word aab 5;word aac 5;word aad 6;word aa 999;");
        due("20: of like ones the most used", x.nearest(s("aax")), 3);
        due("20: the least DISTANCE ahead of use", x.nearest(s("aab")), 0);
        x.forget(3);
        due("20: the most used then", x.nearest(s("aax")), 2);
        x.forget(2);
        due("20: then the least number", x.nearest(s("aax")), 0);
        x.use(1);
        due("20: one use more", x.nearest(s("aax")), 1);
        NearSpell y = Check.told("word zzzzzz 0;prefix 1;");
        due("20: as far as can be, but met", y.nearest(s("a")), 0);
        due("15: 6 apart", y.distance(s("zzzzzz"), s("a")), 6);
        due("20: by the empty FORM", y.nearest(0), 0);
    }

    private static void nearAtTheEdges() {
        NearSpell x = Check.told("word aaa 1;word aab 2;word aac 2;word a 3;word zzzzzz 4;prefix 1;");
        due("21: d 0", x.near(s("aaa"), 0), 1);
        due("40: itself", x.lies(0) * 10 + x.lies(1), -2);
        due("21: d 1", x.near(s("aaa"), 1), 3);
        due("40: by DISTANCES, then the most used, then numbers", x.lies(0) * 100 + x.lies(1) * 10 + x.lies(2), 12);
        due("21: d 2", x.near(s("aaa"), 2), 4);
        due("21: d 5", x.near(s("aaa"), 5), 4);
        due("21: d 6", x.near(s("aaa"), 6), 5);
        due("40: the last of them", x.lies(4), 4);
        due("40: none behind", x.lies(5), -2);
        due("48: numbers that lie there", x.about(14), 5);
        NearSpell beyond = Check.told("word azzzzz 1;word azzzzy 1;word ab 1;prefix 1;");
        due("21: the first one is met, but beyond d", beyond.near(s("ab"), 4), 1);
        due("40: it is not among them", beyond.lies(0), 2);
        due("21: d 5: all", beyond.near(s("ab"), 5), 3);
        NearSpell full = new NearSpell();
        for (int i = 0; i < 14; i++) {
            full.learn(i + 1, 13 - i);
        }
        due("21: all 14", full.near(0, 6), 14);
        due("40: the first and the last", full.lies(0) * 100 + full.lies(13), 13);
        due("21: none met in one place", full.near(s("zzzzzz"), 6), 0);
        due("48: nothing lies there", full.about(14), 0);
        due("40: nothing", full.lies(0), -2);
    }

    private static void splits() {
        NearSpell x = Check.told("word b 1;word a 1;word ab 1;");
        due("22: one behind the other", splitOf(x, "aba"), 201000);
        due("22: of like ones the first", splitOf(x, "zz"), 2);
        due("22: the same one twice", splitOf(x, "bb"), 0);
        due("22: the other first", splitOf(x, "ab"), 100000);
        due("22: of the empty one", splitOf(x, ""), 2);
        due("22: of six letters by twelve", splitOf(Check.told("word uvwxyz 1;"), "abcdef"), 12);
        due("22: nearer by less", splitOf(Check.told("word uvwxyz 1;word u 1;"), "abcdef"), 101006);
        x.forget(1);
        due("22: a forgotten one is none", splitOf(x, "ab"), 1);
        NearSpell y = Check.told("word q 1;word ba 1;word ab 1;word a 1;");
        due("22: of like ones the first ENTRY", splitOf(y, "aba"), 203000);
        due("22: then the other one", splitOf(y, "abb"), 200001);
        NearSpell behind = Check.told("word x 1;word a 1;");
        behind.forget(1);
        due("22: nor is it one behind the other", splitOf(behind, "xa"), 1);
        behind.type(s("xa"));
        read("nor for a reading", behind, 1, 1);
        NearSpell empty = new NearSpell();
        empty.learn(0, 1);
        due("22: the empty one twice", splitOf(empty, "abc"), 3);
        empty.learn(s("abc"), 1);
        due("22: of like ones the first, the empty one", splitOf(empty, "abc"), 1000);
    }

    /** The first ENTRY, the other one, the DISTANCE, in steps of a thousand (100 of the first). */
    private static int splitOf(NearSpell x, String letters) {
        return x.split(s(letters), 0) * 100000 + x.split(s(letters), 1) * 1000 + x.split(s(letters), 2);
    }

    private static void joins() {
        NearSpell x = Check.told("word zz 9;word ab 1;word ba 1;");
        due("23: none typed", x.join(0, 0), -1);
        x.type(s("a"));
        due("23: no next one", x.join(0, 0), -1);
        x.type(s("b"));
        due("23: both", x.join(0, 0) * 10 + x.join(0, 1), 10);
        due("23: not the last one alone", x.join(1, 0), -1);
        x.type(s("b"));
        due("23: of like ones the first, whatever its use", x.join(1, 0) * 10 + x.join(1, 1), 11);
        x.type(s("abcdef"));
        x.type(s("ghijkl"));
        due("23: twelve letters", x.join(3, 1), 10);
        x.type(0);
        due("23: the fifth and the sixth", x.join(4, 0) * 10 + x.join(4, 1), 6);
        due("23: the sixth is the last", x.join(5, 0), -1);
        x.wipe();
        x.type(0);
        x.type(0);
        due("23: both empty", x.join(0, 0) * 10 + x.join(0, 1), 2);
        // Of all, not of those that are met.
        NearSpell y = Check.told("word xyz 1;errors 0;");
        y.type(s("a"));
        y.type(s("b"));
        due("23: of all ENTRIES", y.join(0, 0) * 10 + y.join(0, 1), 3);
    }

    private static void read(String call, NearSpell x, int cost, int ways) {
        due("24: " + call, x.reading(), cost);
        due("25: " + call, x.readings(), ways);
    }

    private static void readings() {
        NearSpell x = Check.told("word ab 1;word cd 1;");
        read("none typed", x, 0, 1);
        x.type(s("abcd"));
        read("for two, and 1", x, 1, 1);
        x.type(s("a"));
        x.type(s("b"));
        read("joined, and 1", x, 2, 1);
        x.wipe();
        read("wiped", x, 0, 1);
        x.type(0);
        // ab or cd at 2; two of them at 4, and 1.
        read("the empty one", x, 2, 2);
        x.type(0);
        // One by one 4; joined 2, and 1.
        read("two empty ones", x, 3, 2);
        x.wipe();
        x.type(s("abab"));
        read("the same one twice", x, 1, 1);
        x.wipe();
        for (int i = 0; i < 6; i++) {
            x.type(s(i % 2 == 0 ? "a" : "b"));
        }
        // One by one 6; each pair joined 1: three pieces.
        read("six, in pairs", x, 3, 1);
        x.undo();
        // Two pairs and the last one alone, 1 each; any other piece would be b a, at 2.
        read("five", x, 3, 1);
        NearSpell one = Check.told("word a 1;");
        one.type(s("aaaa"));
        // a at 3; a a at 2, and 1.
        read("one or two of them", one, 3, 2);
        one.wipe();
        one.type(0);
        one.type(0);
        // One by one 1 + 1; joined 1, and 1.
        read("one by one or joined", one, 2, 2);
        one.type(s("a"));
        // The first two as before, then a at 0; or the first at 1, then a joined, and 1.
        read("and a", one, 2, 3);
        NearSpell e = new NearSpell();
        e.learn(0, 1);
        e.type(0);
        read("the empty ENTRY", e, 0, 1);
        e.type(s("ab"));
        // One by one 0 + 2 (two of them 3); joined 2, and 1.
        read("and ab", e, 2, 1);
    }

    /** Typed zzzz is 3 from each of az .. nz, and 2 from any two of them together: 14 + 196 ways. */
    private static void readingsWrap() {
        NearSpell x = new NearSpell();
        for (int i = 0; i < 14; i++) {
            x.learn((i + 1) * 27 + 26, 0);
        }
        int ways = 1;
        for (int i = 1; i <= 6; i++) {
            x.type(s("zzzz"));
            ways *= 210;
            read(i + " of zzzz", x, 3 * i, ways);
        }
        due("25: an int, wrapping", ways, (int) 85766121000000L);
    }

    private static void likePairs() {
        NearSpell x = Check.told("word aa 1;word zz 1;word ab 1;word zy 1;word abc 1;");
        due("26: of like ones the lesser number first", x.closest(0) * 100 + x.closest(1) * 10 + x.closest(2), 21);
        x.forget(0);
        due("26: then the next", x.closest(0) * 100 + x.closest(1) * 10 + x.closest(2), 131);
        x.learn(s("zx"), 1);
        due("26: then the other one", x.closest(0) * 100 + x.closest(1) * 10 + x.closest(2), 131);
        NearSpell y = Check.told("word abcdef 1;word ghijkl 1;word mnopqr 1;");
        due("26: as far as can be", y.closest(0) * 100 + y.closest(1) * 10 + y.closest(2), 16);
        y.learn(0, 1);
        NearSpell two = Check.told("word ab 1;word abc 1;");
        due("26: just two", two.closest(0) * 100 + two.closest(1) * 10 + two.closest(2), 11);
        due("26: six letters from the empty one, not nearer", y.closest(0) * 100 + y.closest(1) * 10 + y.closest(2), 16);
    }

    private static void groupsAndCrowds() {
        NearSpell x = new NearSpell();
        for (int i = 0; i < 14; i++) {
            x.learn(i + 1, 0);
        }
        due("27: d 0: each one alone", x.groups(0), 14);
        due("27: d 1: all", x.groups(1), 1);
        due("32: d 0: none has a like one", x.crowded(0), 0);
        due("32: d 1: all", x.crowded(1), 14);
        NearSpell y = Check.told("word abcdef 1;word ghijkl 1;");
        due("27: d 5, 6", y.groups(5) * 10 + y.groups(6), 21);
        due("32: d 5, 6", y.crowded(5) * 10 + y.crowded(6), 2);
        // They hang together over others: the ends are 4 apart.
        NearSpell z = Check.told("word aaaa 1;word bbbb 1;word aaab 1;word abbb 1;word aabb 1;");
        due("27: over others", z.groups(1), 1);
        z.forget(4);
        due("27: not over a forgotten one", z.groups(1), 2);
        due("32: each with one", z.crowded(1), 4);
    }

    private static void farSets() {
        NearSpell x = new NearSpell();
        for (int i = 0; i < 14; i++) {
            x.learn(i + 1, 0);
        }
        due("28: d 0: all 14", x.far(0, 0), 14);
        due("28: as bits", x.far(0, 1), (1 << 14) - 1);
        due("28: d 1: of like ones the least", x.far(1, 0) * 10 + x.far(1, 1), 11);
        x.forget(0);
        due("28: then", x.far(1, 1), 2);
        NearSpell y = Check.told("word abcdef 1;word ghijkl 1;word abcdeg 1;");
        due("28: d 5: more than 5", y.far(5, 0) * 10 + y.far(5, 1), 23);
        due("28: d 6: none is more than 6", y.far(6, 0) * 10 + y.far(6, 1), 11);
        // aaa and aab are near, each is far from the three others.
        NearSpell w = Check.told("word aaa 1;word fff 1;word ggg 1;word aab 1;word hhh 1;");
        due("28: one of two near ones", w.far(1, 0) * 100 + w.far(1, 1), 400 + 0b10111);
        w.learn(s("hhi"), 0);
        w.learn(s("aac"), 0);
        due("28: of three near ones the first", w.far(1, 0) * 100 + w.far(1, 1), 400 + 0b10111);
        NearSpell v = Check.told("word aaa 1;word bbb 1;word aab 1;word abb 1;");
        // The chain aaa aab abb bbb: ends, or every other one.
        due("28: the least of like sets", v.far(1, 0) * 100 + v.far(1, 1), 200 + 0b0011);
        v.forget(0);
        due("28: then", v.far(1, 0) * 100 + v.far(1, 1), 200 + 0b0110);
        v.learn(s("zzz"), 0);
        due("28: the others with the last", v.far(1, 0) * 100 + v.far(1, 1), 300 + 0b10110);
        // The first is near to both others, which are far from one another.
        NearSpell u = Check.told("word aab 1;word aaa 1;word abb 1;");
        due("28: without the first", u.far(1, 0) * 100 + u.far(1, 1), 200 + 0b110);
        // The least as bits: 0 and 2 against 0 and 3, 1 and 3.
        NearSpell z = Check.told("word aab 1;word aaa 1;word bbb 1;word bba 1;");
        due("28: the least set as bits", z.far(1, 0) * 100 + z.far(1, 1), 205);
        z.forget(0);
        due("28: without the first", z.far(2, 0) * 100 + z.far(2, 1), 206);
    }

    private static void middles() {
        NearSpell x = Check.told("word aaaa 1;word bbbb 1;");
        due("29: of like ones the first", x.middle(), 0);
        x.learn(s("aabb"), 0);
        due("29: between them all like", x.middle(), 2);
        x.forget(2);
        due("29: the first again", x.middle(), 0);
        NearSpell y = new NearSpell();
        for (int i = 0; i < 14; i++) {
            y.learn(((((((i + 1) * 27 + i + 1) * 27 + i + 1) * 27 + i + 1) * 27 + i + 1) * 27) + i + 1, 0);
        }
        NearSpell fewer = Check.told("word ab 1;word aa 1;word bb 1;word bbb 1;word bbc 1;");
        due("29: among five", fewer.middle(), 2);
        fewer.forget(3);
        fewer.forget(4);
        due("29: the forgotten ones are no others", fewer.middle(), 0);
        due("29: all 6 apart: the first", y.middle(), 0);
        y.forget(0);
        due("29: then the next", y.middle(), 1);
    }

    private static void chains() {
        // Six letters come one by one, six are changed, two are swapped: thirteen steps.
        NearSpell x = new NearSpell();
        String[] steps = {"", "a", "ab", "abc", "abcd", "abcde", "abcdef", "zbcdef", "zycdef", "zyxdef", "zyxwef", "zyxwvf", "zyxwvu", "yzxwvu"};
        for (String step : steps) {
            x.learn(s(step), 0);
        }
        due("30: the longest there can be", x.chain(0, 13, 1), 13);
        due("30: the other way", x.chain(13, 0, 1), 13);
        due("30: d 0: to itself", x.chain(5, 5, 0), 0);
        due("30: d 0: to none other", x.chain(5, 6, 0), -1);
        due("30: d 6", x.chain(0, 13, 6), 1);
        due("30: d 5", x.chain(0, 13, 5), 3);
        x.forget(6);
        due("30: by none", x.chain(0, 13, 1), -1);
        due("30: d 2 goes over it", x.chain(5, 7, 2), 1);
    }

    private static void beginnings() {
        NearSpell x = Check.told("word ab 4;word abc 5;word abcdef 5;word b 0;");
        due("31: of like ones the first", x.begins(s("a")), 1);
        due("31: it itself", x.begins(s("abcdef")), 2);
        due("31: itself and others", x.begins(s("ab")), 1);
        due("31: used 0 times", x.begins(s("b")), 3);
        due("31: there is none", x.begins(s("bc")), -1);
        due("31: not of what is behind", x.begins(s("c")), -1);
        due("31: the empty one begins all", x.begins(0), 1);
        x.use(2);
        due("31: the most used", x.begins(s("a")), 2);
        x.forget(2);
        due("31: not the forgotten one", x.begins(s("abcdef")), -1);
        NearSpell six = Check.told("word a 1;word abcdef 2;");
        due("31: six letters begin with the empty one, too", six.begins(0), 1);
        NearSpell e = new NearSpell();
        e.learn(0, 7);
        due("31: the empty ENTRY", e.begins(0), 0);
        due("31: it begins with nothing else", e.begins(1), -1);
    }

    private static void loads() {
        NearSpell x = Check.told("word ab 1;word ba 1;errors 1;buckets 31;hash 30;");
        due("33: the last BUCKET", x.load(30), 6);
        due("33: none such", x.load(31), -1);
        due("33: the first one", x.load(0), 0);
        due("34: the last BUCKET", x.fullest(), 30);
        due("36: ab, a, b, ba: each once", x.clashes(), 6);
        NearSpell one = Check.told("word ab 1;word ba 1;errors 1;buckets 1;");
        due("33: one BUCKET", one.load(0) * 10 + one.load(1), 59);
        due("34: it", one.fullest(), 0);
        due("35: both ENTRIES' a and b", one.store(), 6);
        due("36: in BUCKET 0, ab, ba, a, b", one.clashes(), 6);
        one.forget(1);
        due("36: ab, a, b", one.clashes(), 3);
        NearSpell ends = Check.told("word a 1;word b 1;errors 0;hash (total = 2) * 30;buckets 31;");
        due("33: one in each", ends.load(0) * 10 + ends.load(30), 11);
        due("34: the first of like ones", ends.fullest(), 0);
        due("36: unlike ones in unlike BUCKETS", ends.clashes(), 0);
        ends.learn(s("bb"), 0);
        due("36: two in the first", ends.clashes(), 1);
        NearSpell second = Check.told("word a 1;word b 1;errors 0;hash 1;");
        due("34: the second BUCKET", second.fullest(), 1);
        NearSpell like = Check.told("word a 1;word b 1;errors 0;hash 5 - total;");
        due("34: of like ones the first", like.fullest(), 3);
        like.forget(1);
        due("34: the only one", like.fullest(), 4);
        NearSpell most = Check.told("prefix 6;buckets 1;");
        for (int i = 0; i < 14; i++) {
            most.learn(s("bcdef") * 27 + 7 + i, 0);
        }
        due("35: 22 of each", most.store(), 14 * 22);
        due("33: in one", most.load(0), 14 * 22);
        due("38: as errors tell", most.law(2), 14 * 22);
    }

    private static void rarestAndLaw() {
        NearSpell x = Check.told("word aa 1;word a 1;word b 1;");
        // aa: aa, a, empty; a: a, empty; b: b, empty.
        due("37: of like ones the first", x.rarest(), 0);
        x.forget(0);
        due("37: a and b: one each", x.rarest(), 1);
        NearSpell m = Check.told("word a 1;word ab 1;word abc 1;word abd 1;errors 1;");
        // a: empty; ab: b; abc: abc, ac, bc; abd as many.
        due("37: the most of their own", m.rarest(), 2);
        m.forget(2);
        due("37: then", m.rarest(), 3);
        m.learn(s("ad"), 1);
        m.learn(s("bd"), 1);
        // a has the empty one alone, abd itself; all else is others', too.
        due("37: what others have doesn't count", m.rarest(), 0);
        NearSpell y = Check.told("word abcd 1;word abce 1;prefix 3;");
        due("37: none has its own", y.rarest(), 0);
        NearSpell z = Check.told("word a 1;word abcdef 1;errors 0;prefix 6;");
        due("38: 0", z.law(0), 2);
        due("38: 1", z.law(1), 2 + 7);
        due("38: 2: more than it has letters", z.law(2), 2 + 22);
        due("35: as errors tell now", z.store(), 2);
        due("48: errors stay", z.about(5), 0);
    }

    private static void odds() {
        for (int slips = 0; slips <= 100; slips++) {
            NearSpell x = Check.told("slips " + slips + ";");
            for (int n = 0; n <= 4; n++) {
                long upper = 1;
                long lower = 1;
                for (int i = 0; i < n; i++) {
                    upper *= 100 - slips;
                    lower *= 100;
                }
                long common = java.math.BigInteger.valueOf(upper).gcd(java.math.BigInteger.valueOf(lower)).longValue();
                due("39: the upper part of " + n + " by slips " + slips, x.odds(n, 0), upper / common);
                due("39: the lower part of " + n + " by slips " + slips, x.odds(n, 1), lower / common);
            }
            due("39: n 5", x.odds(5, 0), -1);
            due("39: n -1", x.odds(-1, 1), -1);
        }
        NearSpell all = Check.told("slips 100;");
        due("39: 0 of 1", all.odds(4, 0) * 10 + all.odds(4, 1), 1);
        due("39: none typed", all.odds(0, 0) * 10 + all.odds(0, 1), 11);
    }
}

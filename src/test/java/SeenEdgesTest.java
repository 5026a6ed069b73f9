/** The limits of section 4 and of promises 40 to 48: what lies there, is SEEN, kept in BOXES, told. */
public final class SeenEdgesTest {
    private static final Check CHECK = new Check();
    private static final String TEN = "word a 1;word b 1;word c 1;word d 1;word e 1;word f 1;word g 1;word h 1;word i 1;word j 1;";

    public static void main(String[] args) {
        lying();
        thirtySeen();
        distancesSeen();
        sameTimes();
        edgesOfTimes();
        wordsAsTold();
        laterAtTheMost();
        noneFits();
        likeAsked();
        boxes();
        boxesAndNumbers();
        boxesAndActs();
        about();
        CHECK.finish();
    }

    private static void due(String call, long got, long want) {
        CHECK.due(call, got, want);
    }

    private static void due(String call, boolean got, boolean want) {
        CHECK.due(call, got, want);
    }

    private static int s(String letters) {
        return Check.s(letters);
    }

    private static void lying() {
        NearSpell x = Check.told("word ab 1;word abc 2;word b 3;");
        due("40: nothing lies there at first", x.lies(0), -2);
        x.forms(s("ab"));
        due("40: the first of four", x.lies(0), 0);
        due("40: the last of four", x.lies(3), s("ab"));
        due("40: none such", x.lies(4), -2);
        due("40: below 0", x.lies(-1), -2);
        x.near(s("ab"), 6);
        due("40: three others lie there then", x.about(14), 3);
        due("40: the last of them", x.lies(2), 1);
        due("40: none of those before", x.lies(3), -2);
        x.near(s("zzzzzz"), 6);
        due("40: none lie there then", x.lies(0), -2);
        x.forms(0);
        due("40: a number 0 lies there", x.lies(0), 0);
        due("40: and no more", x.lies(1), -2);
        due("16: it can't be", x.forms(27), -1);
        due("16: nothing lies there", x.about(14) * 10 + x.lies(0), -2);
        x.forms(0);
        due("21: d can't be", x.near(s("ab"), 7), -1);
        due("21: nothing lies there", x.about(14) * 10 + x.lies(0), -2);
        x.forms(s("ab"));
        x.image(0);
        x.forget(0);
        x.undo();
        x.back(0);
        due("47: what lies there stays", x.about(14), 4);
    }

    private static void thirtySeen() {
        NearSpell x = Check.told("word ab 1;");
        due("48: nothing SEEN", x.about(10), 0);
        for (int i = 0; i < 30; i++) {
            due("41: its number", x.seen(s("ab"), 0, true), i);
        }
        due("48: 30 SEEN", x.about(10), 30);
        due("41: there are 30", x.seen(s("ab"), 0, true), -1);
        due("42: the first", x.untell(0), true);
        due("42: the last", x.untell(29), true);
        due("42: behind the last", x.untell(30), false);
        due("42: below 0", x.untell(-1), false);
        due("41: there are 30, two of them UNTOLD", x.seen(s("ab"), 0, true), -1);
        due("42: it is so already", x.untell(0) || x.untell(29), false);
        Check.book(x, "word cd 1;");
        due("41: the first again behind a BOOK", x.seen(s("ab"), 0, true), 0);
        due("42: not UNTOLD", x.untell(0), true);
    }

    private static void distancesSeen() {
        NearSpell x = Check.told("word abcdef 1;word abcdeg 1;word uvwxyz 1;");
        due("41: d 0", x.seen(s("abcdef"), 0, true), 0);
        due("44: it itself", x.fits(0), 0b001);
        x.untell(0);
        due("41: d 6, was not", x.seen(s("abcdef"), 6, false), 1);
        due("44: none is more than 6 away", x.fits(0), 0);
        x.untell(1);
        due("41: d 6", x.seen(s("abcdef"), 6, true), 2);
        due("44: all are", x.fits(0), 0b111);
        due("41: d 5, was not", x.seen(s("abcdef"), 5, false), 3);
        due("44: more than 5", x.fits(0), 0b100);
        x.untell(3);
        due("41: d 1", x.seen(s("abcdef"), 1, true), 4);
        due("44: 1 at most", x.fits(0), 0b011);
        due("41: d 0, was not", x.seen(s("abcdef"), 0, false), 5);
        due("44: 1 just", x.fits(0), 0b010);
        due("41: the empty SPELLING", x.seen(0, 5, false), 6);
        due("44: six letters", x.fits(0), 0b010);
        due("41: d 7", x.seen(0, 7, true), -1);
        due("41: d -1", x.seen(0, -1, true), -1);
        due("48: seven SEEN", x.about(10), 7);
    }

    private static void sameTimes() {
        NearSpell x = Check.told("word ab 1;word cd 1;");
        x.later(4);
        x.seen(s("ab"), 0, true);
        due("42: UNTOLD at the same TIME", x.untell(0), true);
        for (int k = 3; k <= 5; k++) {
            due("44: it counts at no TIME: " + k, x.fits(k), 0b11);
        }
        x.seen(s("ab"), 0, true);
        x.seen(s("cd"), 0, false);
        due("44: both TOLD at one TIME", x.fits(4), 0b01);
        due("44: before that", x.fits(3), 0b11);
        x.later(0);
        due("43: no later: UNTOLD at the same TIME", x.untell(1), true);
        due("44: the other one counts", x.fits(4), 0b01);
        x.untell(2);
        due("44: none counts", x.fits(4), 0b11);
    }

    private static void edgesOfTimes() {
        NearSpell x = Check.told("word ab 1;word cd 1;");
        x.seen(s("ab"), 0, true);
        x.later(10);
        x.untell(0);
        due("44: TOLD at 0", x.fits(0), 0b01);
        due("44: ahead of that", x.fits(-1), 0b11);
        due("44: far ahead", x.fits(Integer.MIN_VALUE), 0b11);
        due("44: just ahead of UNTOLD", x.fits(9), 0b01);
        due("44: UNTOLD at k", x.fits(10), 0b11);
        due("44: far behind", x.fits(Integer.MAX_VALUE), 0b11);
        due("45: as known at 9", x.ask(0, 9) * 10 + x.ask(1, 9), 1);
        due("45: as known at -1", x.ask(0, -1) * 10 + x.ask(1, -1), 1);
        x.seen(s("zz"), 0, true);
        due("44: TOLD now", x.fits(10), 0);
        due("44: not known before", x.fits(9), 0b01);
        due("44: known then, too", x.fits(11), 0);
        Check.book(x, "word ab 1;word cd 1;");
        due("44: nothing is SEEN behind a BOOK", x.fits(10), 0b11);
        due("4: the TIME stays", x.about(11), 10);
        x.seen(s("cd"), 0, true);
        due("44: TOLD at the TIME that stayed", x.fits(9) * 10 + x.fits(10), 32);
    }

    private static void wordsAsTold() {
        NearSpell x = Check.told("word ab 1;word cd 1;");
        x.learn(s("ef"), 1);
        x.forget(0);
        due("44: WORDS of the book as it was told", x.fits(0), 0b11);
        x.seen(s("ab"), 0, true);
        due("44: a forgotten one too", x.fits(0), 0b01);
        due("45: it", x.ask(0, 0) * 10 + x.ask(1, 0), 1);
        x.forget(1);
        x.forget(2);
        due("41: without ENTRIES", x.seen(s("ab"), 1, true), 1);
        due("44: without ENTRIES", x.fits(0), 0b01);
        due("44: all ten", Check.told(TEN).fits(0), 1023);
        due("44: of no WORDS", Check.told("prefix 3;").fits(0), 0);
    }

    private static void laterAtTheMost() {
        NearSpell x = new NearSpell();
        due("43: by 0", x.later(0), 0);
        due("43: by 1", x.later(1), 1);
        due("43: by 1000", x.later(1000), 1001);
        due("43: by 1001", x.later(1001), -1);
        due("43: by -1", x.later(-1), -1);
        for (int i = 0; i < 98; i++) {
            x.later(1000);
        }
        due("48: the TIME", x.about(11), 99001);
        due("43: 100,001", x.later(1000), -1);
        due("43: 100,000", x.later(999), 100000);
        due("43: 100,001 again", x.later(1), -1);
        due("43: by 0 still", x.later(0), 100000);
        Check.book(x, "word ab 1;");
        due("4: the TIME stays", x.about(11), 100000);
        x.seen(1, 0, true);
        due("44: at the last TIME", x.fits(99999) * 10 + x.fits(100000), 10);
    }

    private static void noneFits() {
        NearSpell x = Check.told("word ab 1;word cd 1;");
        due("45: what 2", x.ask(2, 0), -1);
        due("45: what -1", x.ask(-1, 0), -1);
        x.later(1);
        x.seen(s("ab"), 6, false);
        due("44: none", x.fits(1), 0);
        due("45: NONE if none FITS", x.ask(0, 1) * 10 + x.ask(1, 1), -11);
        due("45: but before", x.ask(0, 0) * 10 + x.ask(1, 0), 1);
        due("45: no WORDS", new NearSpell().ask(0, 0) + new NearSpell().ask(1, 0), -2);
    }

    private static void likeAsked() {
        due("45: one WORD", Check.told("word ab 1;").ask(0, 0) * 10 + Check.told("word ab 1;").ask(1, 0), 1);
        NearSpell x = Check.told(TEN);
        due("45: of like ones the first", x.ask(0, 0), 0);
        due("45: nine at the most", x.ask(1, 0), 9);
        x.seen(s("a"), 0, false);
        // Nine fit: a, that doesn't, would leave all of them; each other one eight.
        due("45: the fewest are left by the next", x.ask(0, 0) * 10 + x.ask(1, 0), 18);
        x.seen(s("j"), 0, true);
        due("45: one fits: all WORDS are like, the first", x.ask(0, 0) * 10 + x.ask(1, 0), 1);
        // 0 to 6 away from the first: each one told apart.
        NearSpell y = Check.told("word b 1;word abcdef 1;word abcdeg 1;word abcdhg 1;word abcihg 1;word abjihg 1;word akjihg 1;word lkjihg 1;");
        y.seen(s("b"), 0, false);
        due("45: seven told apart by one", y.ask(0, 0) * 10 + y.ask(1, 0), 11);
        // Both others are 6 away from the first; from each of them the others are 6 and 1 away.
        NearSpell six = Check.told("word uvwxyz 1;word abcdef 1;word abcdeg 1;");
        due("45: 6 away counts too", six.ask(0, 0) * 10 + six.ask(1, 0), 11);
    }

    private static void boxes() {
        NearSpell x = Check.told("word ab 5;draw 9;");
        for (int box = 0; box < 3; box++) {
            due("47: nothing was kept", x.back(box), -1);
            due("46: how many ENTRIES", x.image(box), 1 + box);
            x.learn(box + 1, box);
            x.type(box + 1);
        }
        due("46: none such", x.image(3), -1);
        due("46: below 0", x.image(-1), -1);
        for (int box = 2; box >= 0; box--) {
            due("47: how many ENTRIES", x.back(box), 1 + box);
            due("47: the PHRASE", x.about(3), box);
            due("47: ENTRIES as then", x.entry(box, 0) >= 0 && x.entry(box + 1, 0) == -1, true);
        }
        due("47: the SEED", x.about(7), 9);
        due("47: again", x.back(2), 3);
        due("46: kept anew", x.forget(0) == 2 ? x.image(0) : -5, 2);
        due("47: the new one", x.back(1) == 2 ? x.back(0) : -5, 2);
        due("47: forgotten there", x.entry(0, 0), -1);
        NearSpell none = new NearSpell();
        due("46: no ENTRIES", none.image(1), 0);
        none.learn(1, 1);
        due("47: none again", none.back(1), 0);
        due("47: none kept in another", none.back(0), -1);
    }

    private static void boxesAndNumbers() {
        NearSpell x = Check.told("word ab 5;");
        x.image(0);
        for (int i = 1; i < 14; i++) {
            x.learn(i, 999);
        }
        x.image(1);
        due("7: there were 14", x.learn(20, 0), -1);
        due("47: one", x.back(0), 1);
        due("48: numbers given as then", x.about(2), 1);
        due("7: the next one", x.learn(20, 0), 1);
        due("47: fourteen", x.back(1), 14);
        due("7: there were 14 again", x.learn(20, 0), -1);
        due("6: the last one", x.entry(13, 0) * 1000 + x.entry(13, 2), 13999);
        due("9: 999 times, as then", x.use(13), -1);
        for (int i = 0; i < 6; i++) {
            x.type(1);
        }
        x.image(2);
        x.wipe();
        x.back(2);
        due("10: there are 6 again", x.type(1), -2);
    }

    private static void boxesAndActs() {
        NearSpell x = Check.told("word ab 5;");
        x.use(0);
        x.use(0);
        x.undo();
        due("46: no ACT: can be undone, redone", x.image(0) * 100 + x.about(8) * 10 + x.about(9), 111);
        due("47: no ACTS are kept then", x.back(0) * 100 + x.about(8) * 10 + x.about(9), 100);
        due("12: none", x.undo(), false);
        due("13: none", x.redo(), false);
        due("47: used as then", x.entry(0, 2), 6);
        x.use(0);
        due("47: nothing kept: ACTS stay", x.back(1) == -1 && x.undo(), true);
        due("13: and again", x.redo() ? x.entry(0, 2) : -5, 7);
        due("46: kept behind that", x.image(0), 1);
        due("12: a BOX stays", x.undo() && x.back(0) == 1 ? x.entry(0, 2) : -5, 7);
        x.seen(1, 1, true);
        x.later(3);
        Check.feed(x, "word");
        x.back(0);
        due("47: SEEN, the TIME, the TAPE stay", x.about(10) * 100 + x.about(11) * 10 + x.about(12), 134);
    }

    private static void about() {
        int[] fresh = {0, 0, 0, 0, 4, 2, 13, 0, 0, 0, 0, 0, 0, 0, 0, 0};
        NearSpell x = new NearSpell();
        for (int what = -3; what < 20; what++) {
            due("48: about(" + what + ") of a new object", x.about(what), what >= 0 && what < 16 ? fresh[what] : -1);
        }
        NearSpell most = Check.told(TEN + "prefix 6;errors 0;buckets 31;slips 100;draw 999;hash 1" + "+1".repeat(29) + ";");
        for (int i = 0; i < 4; i++) {
            most.learn(s("z") * 27 + 1 + i, 1);
        }
        for (int i = 0; i < 6; i++) {
            most.type(s("ab"));
        }
        for (int i = 0; i < 40; i++) {
            most.use(i % 14);
        }
        for (int i = 0; i < 30; i++) {
            most.seen(1, 1, true);
        }
        for (int i = 0; i < 40; i++) {
            most.undo();
        }
        for (int i = 0; i < 100; i++) {
            most.later(1000);
        }
        for (int i = 0; i < 80; i++) {
            most.feed(0, 0, 0, 0, 0);
        }
        most.near(s("a"), 6);
        int[] full = {10, 14, 14, 6, 6, 0, 31, most.about(7), 0, 40, 30, 100000, 1600, 30, 1, 100};
        for (int what = 0; what < 16; what++) {
            due("48: about(" + what + ") at the most", most.about(what), full[what]);
        }
        due("48: about(16)", most.about(16), -1);
    }
}

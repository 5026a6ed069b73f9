/** The limits that section 2 names: SPELLINGS, numbers, FORMS, BUCKETS, the PHRASE, ACTS. */
public final class EntryEdgesTest {
    private static final Check CHECK = new Check();

    public static void main(String[] args) {
        spellings();
        fourteenNumbers();
        allAtOnce();
        freeForNobody();
        usedAtTheMost();
        sixTyped();
        seeds();
        lostLetters();
        fortyActs();
        fortyBehindUndone();
        actsOfEachKind();
        refusedIsNoAct();
        forms();
        buckets();
        wrapping();
        CHECK.finish();
    }

    private static void due(String call, long got, long want) {
        CHECK.due(call, got, want);
    }

    private static void due(String call, boolean got, boolean want) {
        CHECK.due(call, got, want);
    }

    private static int s(String letters) {
        return Check.s(letters);
    }

    /** Every number to 20,000, and those around each power of 27. */
    private static void spellings() {
        NearSpell x = new NearSpell();
        for (int number = -3; number < 20000; number++) {
            x = number % 500 == 0 ? new NearSpell() : x;
            due("15: can be a SPELLING: " + number, x.distance(number, number), isSpelling(number) ? 0 : -1);
        }
        long power = 1;
        for (int letters = 0; letters <= 6; letters++) {
            for (long number = power - 30; number <= power + 30; number++) {
                due("17: can be a SPELLING: " + number, x.bucket((int) number) >= 0, isSpelling(number));
                x = new NearSpell();
            }
            power *= 27;
        }
        due("15: the last of 6 letters", x.distance(387420488, 0), 6);
        due("15: the first of 6 letters", x.distance(s("aaaaaa"), 0), 6);
        due("15: the last of 5 letters", x.distance(s("zzzzz"), 0), 5);
        due("15: the first of one", x.distance(1, 0), 1);
        due("15: the empty one", x.distance(0, 0), 0);
    }

    private static boolean isSpelling(long number) {
        if (number < 0 || number >= 387420489) {
            return false;
        }
        for (long rest = number; rest > 0; rest /= 27) {
            if (rest % 27 == 0) {
                return false;
            }
        }
        return true;
    }

    private static void fourteenNumbers() {
        NearSpell x = new NearSpell();
        for (int i = 0; i < 14; i++) {
            due("7: its number", x.learn(i + 1, i), i);
        }
        due("7: there were 14", x.learn(20, 0), -1);
        due("48: numbers given", x.about(2), 14);
        due("6: the last one", x.entry(13, 0), 14);
        due("6: none behind it", x.entry(14, 0), -1);
        due("8: the last one is forgotten", x.forget(13), 13);
        due("7: still there were 14", x.learn(20, 0), -1);
        due("12: the one forgotten is back", x.undo() ? x.about(1) : -5, 14);
        due("12: the last one learnt is not", x.undo() ? x.about(2) : -5, 13);
        due("7: a fourteenth again", x.learn(20, 0), 13);
        NearSpell y = Check.told("word a 1;word b 1;word c 1;word d 1;word e 1;word f 1;word g 1;word h 1;word i 1;word j 1;");
        for (int i = 10; i < 14; i++) {
            due("7: behind ten WORDS", y.learn(s("x") * 27 + i, 1), i);
        }
        due("7: ten WORDS and four", y.learn(s("y"), 1), -1);
        due("18: 14 bits", y.met(0, 1), (1 << 14) - 1);
    }

    /** 14 numbers, 6 typed: none stands in another one's place. */
    private static void allAtOnce() {
        NearSpell x = Check.told("draw 5;slips 0;");
        for (int i = 0; i < 14; i++) {
            x.learn(s("zzzzz") * 27 + 26 - i, 999 - i);
        }
        for (int i = 0; i < 6; i++) {
            x.type(s("yyyyy") * 27 + 26 - i);
        }
        int seed = 5;
        for (int i = 0; i < 14; i++) {
            due("6: SPELLING " + i, x.entry(i, 0), s("zzzzz") * 27 + 26 - i);
            due("6: used " + i, x.entry(i, 2), 999 - i);
        }
        for (int i = 0; i < 6; i++) {
            due("14: typed " + i, x.typed(i), s("yyyyy") * 27 + 26 - i);
            seed = (seed * 137 + 71) % 1000;
        }
        due("48: the SEED", x.about(7), seed);
        due("48: numbers, SPELLINGS", x.about(2) * 10 + x.about(3), 146);
    }

    private static void freeForNobody() {
        NearSpell x = Check.told("word ab 3;word cd 4;");
        due("8: the last one", x.forget(1), 1);
        due("7: the next number, not the forgotten one's", x.learn(s("ef"), 0), 2);
        due("7: its SPELLING learnt anew", x.learn(s("cd"), 9), 3);
        due("6: the forgotten one is none", x.entry(1, 0), -1);
        due("6: not by any what", x.entry(1, 1) + x.entry(1, 2) + x.entry(1, 3), -3);
        due("48: ENTRIES", x.about(1), 3);
        due("48: numbers given", x.about(2), 4);
        due("48: WORDS of the book", x.about(0), 2);
        due("8: all others", x.forget(0) * 100 + x.forget(2) * 10 + x.forget(3), 210);
        due("48: no ENTRIES", x.about(1), 0);
        due("7: a fifth number", x.learn(s("ab"), 0), 4);
    }

    private static void usedAtTheMost() {
        NearSpell x = Check.told("word ab 997;");
        due("9: 998", x.use(0), 998);
        due("9: 999", x.use(0), 999);
        due("9: no more", x.use(0), -1);
        due("6: still 999", x.entry(0, 2), 999);
        due("48: two ACTS", x.about(8), 2);
        due("9: behind UNDO again", x.undo() ? x.use(0) : -5, 999);
        due("7: used 999", x.learn(s("cd"), 999), 1);
        due("9: no more of it", x.use(1), -1);
        due("7: used 0", x.learn(s("ef"), 0), 2);
        due("9: once", x.use(2), 1);
        due("7: used 1000", x.learn(s("gh"), 1000), -1);
        due("7: used -1", x.learn(s("gh"), -1), -1);
    }

    private static void sixTyped() {
        NearSpell x = Check.told("word ab 3;");
        for (int i = 0; i < 6; i++) {
            due("10: typed", x.type(s("ab")), 0);
            due("48: SPELLINGS in the PHRASE", x.about(3), i + 1);
            due("14: the latest", x.typed(i), s("ab"));
            due("14: none behind it", x.typed(i + 1), -1);
        }
        due("10: there are 6", x.type(s("ab")), -2);
        due("11: how many there were", x.wipe(), 6);
        due("14: none", x.typed(0), -1);
        due("11: there were none", x.wipe(), -1);
        due("10: a first again", x.type(0), 0);
        due("14: the empty one", x.typed(0), 0);
        due("11: one", x.wipe(), 1);
        due("12: all back", x.undo() && x.undo() && x.undo() ? x.about(3) : -5, 6);
        due("10: there are 6 again", x.type(s("ab")), -2);
        due("12: five", x.undo() ? x.about(3) : -5, 5);
        due("10: a sixth", x.type(s("xyz")), -1);
        due("14: it", x.typed(5), s("xyz"));
    }

    private static void seeds() {
        int[] draws = {0, 1, 7, 999, 500, 44, 17};
        for (int draw : draws) {
            NearSpell x = Check.told("draw " + draw + ";");
            int seed = draw;
            due("48: draw, at first", x.about(7), seed);
            for (int i = 0; i < 6; i++) {
                x.type(1);
                seed = (seed * 137 + 71) % 1000;
                due("10: the SEED by draw " + draw, x.about(7), seed);
            }
            due("10: there are 6", x.type(1), -2);
            due("10: the SEED stays", x.about(7), seed);
            x.wipe();
            due("11: the SEED stays", x.about(7), seed);
        }
    }

    /** draw 44 makes a SEED of 99, draw 17 one of 400: the rests 99 and 0. */
    private static void lostLetters() {
        lost("slips 99;draw 44;", "abc", "abc");
        lost("slips 100;draw 44;", "abc", "ab");
        lost("slips 0;draw 17;", "abc", "abc");
        lost("slips 1;draw 17;", "abc", "ab");
        lost("draw 17;", "abc", "abc");
        lost("slips 100;", "", "");
        lost("slips 100;", "a", "");
        lost("slips 100;", "zzzzzz", "zzzzz");
        NearSpell x = Check.told("word ab 1;word abc 1;slips 100;errors 0;");
        due("10: the NEAREST to what went behind the PHRASE", x.type(s("abc")), 0);
        due("20: not to what was typed", x.nearest(s("abc")), 1);
        NearSpell y = Check.told("word a 1;slips 100;errors 0;");
        due("10: NONE: none", y.type(s("a")), -1);
        due("10: typed all the same", y.about(3), 1);
        due("10: an ACT", y.about(8), 1);
    }

    private static void lost(String book, String typed, String came) {
        NearSpell x = Check.told(book);
        x.type(s(typed));
        due("10: " + typed + " typed by " + book, x.typed(0), s(came));
    }

    private static void fortyActs() {
        NearSpell x = Check.told("word ab 0;");
        for (int i = 1; i <= 39; i++) {
            x.use(0);
        }
        due("48: 39 can be undone", x.about(8), 39);
        x.use(0);
        due("48: 40", x.about(8), 40);
        due("12: all 40", takeBack(x), 40);
        due("12: to the beginning", x.entry(0, 2), 0);
        due("48: 40 can be redone", x.about(9), 40);
        due("13: all 40", doAgain(x), 40);
        x.use(0);
        due("48: a 41st: 40 at most are kept", x.about(8), 40);
        due("12: 40 of 41", takeBack(x), 40);
        due("12: the oldest went", x.entry(0, 2), 1);
        due("12: false if there is none", x.undo(), false);
        due("13: 40 again", doAgain(x), 40);
        due("13: to the latest", x.entry(0, 2), 41);
    }

    private static int takeBack(NearSpell x) {
        int count = 0;
        while (count < 50 && x.undo()) {
            count++;
        }
        return count;
    }

    private static int doAgain(NearSpell x) {
        int count = 0;
        while (count < 50 && x.redo()) {
            count++;
        }
        return count;
    }

    private static void fortyBehindUndone() {
        NearSpell x = Check.told("word ab 0;word cd 0;");
        for (int i = 1; i <= 45; i++) {
            x.use(0);
        }
        for (int i = 0; i < 10; i++) {
            x.undo();
        }
        due("48: 30 undone yet, 10 redone", x.about(8) * 100 + x.about(9), 3010);
        x.use(1);
        due("48: till another ACT", x.about(8) * 100 + x.about(9), 3100);
        for (int i = 0; i < 20; i++) {
            x.use(1);
        }
        due("48: 40 again", x.about(8), 40);
        due("12: 40", takeBack(x), 40);
        due("12: where the oldest kept one began", x.entry(0, 2) * 100 + x.entry(1, 2), 1600);
        due("13: 40", doAgain(x), 40);
        due("13: the latest", x.entry(0, 2) * 100 + x.entry(1, 2), 3521);
    }

    private static void actsOfEachKind() {
        NearSpell x = Check.told("word ab 5;slips 50;draw 3;");
        x.learn(s("cd"), 2);
        x.forget(0);
        x.use(1);
        x.type(s("cd"));
        x.wipe();
        int seed = x.about(7);
        due("48: five ACTS", x.about(8), 5);
        due("12: wipe", x.undo() ? x.about(3) : -5, 1);
        due("12: the SEED stays by it", x.about(7), seed);
        due("12: type", x.undo() ? x.about(3) : -5, 0);
        due("12: the SEED is as before", x.about(7), 3);
        due("12: use", x.undo() ? x.entry(1, 2) : -5, 2);
        due("12: forget", x.undo() ? x.entry(0, 2) : -5, 5);
        due("12: learn", x.undo() ? x.entry(1, 0) : -5, -1);
        due("12: none", x.undo(), false);
        due("13: all", doAgain(x), 5);
        due("13: as before", x.about(1) * 1000 + x.about(2) * 100 + x.about(3) * 10 + x.entry(1, 2), 1203);
        due("13: the SEED too", x.about(7), seed);
    }

    private static void refusedIsNoAct() {
        NearSpell x = Check.told("word ab 999;");
        x.learn(s("cd"), 1);
        x.undo();
        x.learn(s("ab"), 1);
        x.use(0);
        x.use(1);
        x.forget(1);
        x.wipe();
        x.type(27);
        x.later(1);
        x.seen(1, 1, true);
        x.image(0);
        x.forms(1);
        Check.book(x, "word");
        due("13: still to be done again", x.redo() ? x.entry(1, 0) : -5, s("cd"));
    }

    private static void forms(String book, String letters, String... want) {
        NearSpell x = Check.told(book);
        due("16: FORMS of " + letters + " by " + book, x.forms(s(letters)), want.length);
        for (int i = 0; i < want.length; i++) {
            due("16: FORM " + i + " of " + letters + " by " + book, x.lies(i), s(want[i]));
        }
        due("40: none behind them", x.lies(want.length), -2);
        if (!letters.isEmpty()) {
            due("6: as many of an ENTRY", Check.told("word " + letters + " 1;" + book).entry(0, 3), want.length);
        }
    }

    private static void forms() {
        forms("errors 2;", "", "");
        forms("errors 2;", "a", "", "a");
        forms("errors 1;", "a", "", "a");
        forms("errors 0;", "a", "a");
        forms("errors 2;", "ab", "", "a", "b", "ab");
        forms("errors 1;", "ab", "a", "b", "ab");
        forms("errors 2;", "aaaa", "aa", "aaa", "aaaa");
        forms("errors 2;prefix 1;", "zyx", "", "z");
        forms("errors 0;prefix 1;", "zyxwvu", "z");
        forms("errors 0;prefix 6;", "zyxwvu", "zyxwvu");
        forms("errors 0;prefix 5;", "zyxwvu", "zyxwv");
        forms("errors 0;prefix 6;", "zyx", "zyx");
        forms("errors 0;prefix 3;", "zyx", "zyx");
        forms("errors 1;prefix 2;", "aab", "a", "aa");
        NearSpell again = Check.told("prefix 3;errors 0;word abcdef 1;");
        due("16: by prefix 3", again.forms(s("abcdef")) * 100000 + again.lies(0), 100000 + s("abc"));
        due("4: another prefix alone", Check.book(again, "prefix 2;errors 0;word abcdef 1;"), 1);
        due("16: by prefix 2", again.forms(s("abcdef")) * 100000 + again.lies(0), 100000 + s("ab"));
        due("4: other errors alone", Check.book(again, "prefix 2;errors 1;word abcdef 1;"), 1);
        due("6: by one error", again.entry(0, 3), 3);
        NearSpell x = Check.told("prefix 6;word abcdef 1;word aaaaaa 1;");
        due("16: the most FORMS there can be", x.forms(s("uvwxyz")), 22);
        due("40: the last of them", x.lies(21), s("uvwxyz"));
        due("40: none behind it", x.lies(22), -2);
        due("48: numbers that lie there", x.about(14), 22);
        due("6: of an ENTRY", x.entry(0, 3) * 10 + x.entry(1, 3), 223);
    }

    private static void bucket(String hash, int buckets, String form, int want) {
        NearSpell x = Check.told("hash " + hash + ";buckets " + buckets + ";");
        due("17: BUCKET of '" + form + "' by " + hash + " of " + buckets, x.bucket(s(form)), want);
    }

    private static void buckets() {
        bucket("total", 31, "", 0);
        bucket("length", 31, "", 0);
        bucket("first", 31, "", 0);
        bucket("last", 31, "", 0);
        bucket("first * 100 + last", 31, "z", (2600 + 26) % 31);
        bucket("first * 100 + last", 31, "azzzzb", 102 % 31);
        bucket("total", 31, "zzzzzz", 156 % 31);
        bucket("length", 7, "zzzzzz", 6);
        bucket("length", 6, "zzzzzz", 0);
        bucket("total * 9999", 1, "zzzzzz", 0);
        bucket("0 - 1", 1, "", 0);
        bucket("0 - 1", 31, "", 30);
        bucket("0 - 30", 31, "", 1);
        bucket("0 - 31", 31, "", 0);
        bucket("0 - 32", 31, "", 30);
        bucket("30", 31, "", 30);
        bucket("31", 31, "", 0);
        bucket("5 / 0 + 3", 31, "", 3);
        bucket("5 % 0 + 3", 31, "", 3);
        bucket("0 / 0 + 0 % 0", 31, "", 0);
        bucket("5 / total + 3", 31, "", 3);
        bucket("(0 - 7) / 2 + 10", 31, "", 7);
        bucket("(0 - 7) % 2 + 10", 31, "", 9);
        bucket("7 / (0 - 2) + 10", 31, "", 7);
        bucket("7 % (0 - 2) + 10", 31, "", 11);
        bucket("not (0 - 1)", 31, "", 0);
        bucket("not not 9", 31, "", 1);
        bucket("(0 - 1) and 9999", 31, "", 1);
        bucket("(0 - 1) or 0", 31, "", 1);
        String[] truths = {"0 and 0", "0 and 1", "1 and 0", "1 and 1", "0 or 0", "0 or 1", "1 or 0", "1 or 1"};
        int[] want = {0, 0, 0, 1, 0, 1, 1, 1};
        for (int i = 0; i < truths.length; i++) {
            bucket(truths[i], 31, "", want[i]);
            bucket(truths[i].replace('1', '9'), 31, "", want[i]);
        }
        bucket("5 < 5", 31, "", 0);
        bucket("4 < 5", 31, "", 1);
        bucket("5 > 5", 31, "", 0);
        bucket("0 - 1 < 0", 31, "", 1);
        bucket("5 = 5", 31, "", 1);
        bucket("(3 > 2) + (2 > 1)", 31, "", 2);
    }

    private static void wrapping() {
        // 2048 * 1024 * 1024 is one more than the greatest int: it wraps to the least.
        bucket("2048 * 1024 * 1024 < 0", 31, "", 1);
        bucket("2048 * 1024 * 1024 - 1 > 0", 31, "", 1);
        bucket("2048 * 1024 * 1024", 31, "", 29);
        bucket("2048 * 1024 * 1024 / (0 - 1)", 31, "", 29);
        bucket("2048 * 1024 * 1024 / (0 - 1) < 0", 31, "", 1);
        bucket("2048 * 1024 * 1024 % (0 - 1)", 31, "", 0);
        bucket("2048 * 1024 * 1024 - 1 + 1", 31, "", 29);
        bucket("0 - 2048 * 1024 * 1024", 31, "", 29);
        bucket("2048 * 2048 * 1024", 31, "", 0);
        bucket("4096 * 1024 * 1024 + 5", 31, "", 5);
        bucket("2048 * 1024 * 1024 + 2048 * 1024 * 1024 + 7", 31, "", 7);
        bucket("2048 * 1024 * 1024 % 31 + 10", 31, "", 8);
        int product = 1;
        StringBuilder hash = new StringBuilder("1");
        for (int i = 0; i < 29; i++) {
            hash.append(" * 9973");
            product *= 9973;
        }
        bucket(hash.toString(), 31, "", Math.floorMod(product, 31));
    }
}

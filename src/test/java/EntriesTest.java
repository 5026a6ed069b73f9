/** Promises 6 to 14: entries, acts, undo and redo, what is typed. */
public final class EntriesTest {
    private static final Check CHECK = new Check();

    public static void main(String[] args) {
        entry();
        learn();
        forget();
        use();
        type();
        slips();
        wipe();
        undoAndRedo();
        fortyActs();
        CHECK.finish();
    }

    private static void due(String call, long got, long want) {
        CHECK.due(call, got, want);
    }

    private static void due(String call, boolean got, boolean want) {
        CHECK.due(call, got, want);
    }

    private static int s(String letters) {
        return Check.s(letters);
    }

    private static void entry() {
        NearSpell x = Check.told("word hello 12;word aaa 3;");
        due("6: spelling", x.entry(0, 0), s("hello"));
        due("6: letters", x.entry(0, 1), 5);
        due("6: used", x.entry(0, 2), 12);
        // hell: itself, ell, hll, hel (twice), and of two less: hl, ll, he, el, hl.
        due("6: forms", x.entry(0, 3), 1 + 3 + 4);
        due("6: forms of aaa", x.entry(1, 3), 3);
        due("6: what 4", x.entry(0, 4), -1);
        due("6: what -1", x.entry(0, -1), -1);
        due("6: none such", x.entry(2, 0), -1);
        due("6: below 0", x.entry(-1, 0), -1);
        due("6: far above", x.entry(Integer.MAX_VALUE, 0), -1);
        x.forget(0);
        due("6: a forgotten one", x.entry(0, 0), -1);
    }

    private static void learn() {
        NearSpell x = Check.told("word ab 5;");
        due("7: spelled so already", x.learn(s("ab"), 1), -1);
        due("7: used 1000", x.learn(s("cd"), 1000), -1);
        due("7: used -1", x.learn(s("cd"), -1), -1);
        due("7: a letter of 0", x.learn(27, 0), -1);
        due("7: a letter of 0 within", x.learn(729 + 1, 0), -1);
        due("7: seven letters", x.learn(387420489, 0), -1);
        due("7: below 0", x.learn(-1, 0), -1);
        due("7: no acts", x.about(8), 0);
        due("7: the next number", x.learn(s("zzzzzz"), 999), 1);
        due("7: its spelling", x.entry(1, 0), 387420488);
        due("7: its use", x.entry(1, 2), 999);
        due("7: an act", x.about(8), 1);
        due("7: forgotten", x.forget(0), 1);
        due("7: spelled as a forgotten one was", x.learn(s("ab"), 0), 2);
        due("7: the empty one", x.learn(0, 0), 3);
        due("7: it has no letters", x.entry(3, 1), 0);
        due("7: it has one form", x.entry(3, 3), 1);
        for (int i = 4; i < 14; i++) {
            due("7: number " + i, x.learn(s("q") * 27 + i, i), i);
        }
        due("7: there were 14", x.learn(s("abc"), 1), -1);
        due("7: 13 entries", x.about(1), 13);
        due("7: 14 numbers", x.about(2), 14);
        due("7: no act by that", x.about(8), 13 + 1);
        x.forget(13);
        due("7: still 14 numbers", x.learn(s("abc"), 1), -1);
    }

    private static void forget() {
        NearSpell x = Check.told("word ab 5;word cd 6;word ef 7;");
        due("8: forget", x.forget(1), 2);
        due("8: again", x.forget(1), -1);
        due("8: none such", x.forget(3), -1);
        due("8: below 0", x.forget(-1), -1);
        due("8: one act", x.about(8), 1);
        due("8: words stay", x.about(0), 3);
        due("8: numbers stay", x.about(2), 3);
        due("8: entries", x.about(1), 2);
        due("8: the others keep their numbers", x.entry(2, 0), s("ef"));
        due("8: no longer found", x.begins(s("c")), -1);
    }

    private static void use() {
        NearSpell x = Check.told("word ab 998;word cd 0;");
        due("9: use", x.use(0), 999);
        due("9: 999 times", x.use(0), -1);
        due("9: another", x.use(1), 1);
        due("9: entry", x.entry(1, 2), 1);
        due("9: none such", x.use(2), -1);
        due("9: below 0", x.use(-1), -1);
        due("9: two acts", x.about(8), 2);
        x.forget(1);
        due("9: a forgotten one", x.use(1), -1);
    }

    private static void type() {
        NearSpell x = Check.told("word cat 5;word cart 9;");
        due("10: nearest", x.type(s("cat")), 0);
        due("10: nearest by use", x.type(s("cbt")), 0);
        due("10: none met", x.type(s("xyz")), -1);
        due("10: can't be", x.type(27), -2);
        due("10: below 0", x.type(-1), -2);
        due("10: three typed", x.about(3), 3);
        due("14: the second", x.typed(1), s("cbt"));
        due("14: none such", x.typed(3), -1);
        due("14: below 0", x.typed(-1), -1);
        x.type(0);
        x.type(1);
        due("10: the sixth", x.type(s("car")), 1);
        due("10: a seventh", x.type(s("car")), -2);
        due("10: six acts", x.about(8), 6);
        due("14: the sixth", x.typed(5), s("car"));
        due("14: a seventh", x.typed(6), -1);
    }

    private static void slips() {
        // Seeds: 5 -> 756 -> 643 -> 162 -> 265 -> 376 -> 583.
        NearSpell x = Check.told("word abc 1;slips 57;draw 5;");
        due("10: the seed at first", x.about(7), 5);
        x.type(s("abc"));
        due("10: 56 is less than 57: a letter lost", x.typed(0), s("ab"));
        due("10: the seed", x.about(7), 756);
        x.type(s("abc"));
        due("10: 43 is less: a letter lost", x.typed(1), s("ab"));
        x.type(s("abc"));
        due("10: 62 is not: all stay", x.typed(2), s("abc"));
        due("10: the seed then", x.about(7), 162);
        due("10: what can't be draws nothing", x.type(27), -2);
        due("10: the seed stays", x.about(7), 162);
        x.undo();
        due("12: the seed goes back", x.about(7), 643);
        x.redo();
        due("13: and on again", x.about(7), 162);
        NearSpell y = Check.told("word abc 1;slips 56;draw 5;");
        y.type(s("abc"));
        due("10: 56 is not less than 56", y.typed(0), s("abc"));
        NearSpell z = Check.told("word abc 1;slips 100;");
        due("10: of the empty one nothing", z.type(0), -1);
        due("10: it stays empty", z.typed(0), 0);
        due("10: one letter, lost", z.type(1) == -1 ? z.typed(1) : -5, 0);
        due("10: nearest to what went behind", z.type(s("abcx")), 0);
    }

    private static void wipe() {
        NearSpell x = Check.told("word ab 1;");
        due("11: none", x.wipe(), -1);
        due("11: no act", x.about(8), 0);
        x.type(1);
        x.type(2);
        due("11: two", x.wipe(), 2);
        due("11: none left", x.about(3), 0);
        due("14: none such", x.typed(0), -1);
        due("11: an act", x.about(8), 3);
        due("12: undo", x.undo(), true);
        due("12: both are back", x.typed(0) * 10 + x.typed(1), 12);
        due("13: redo", x.redo(), true);
        x.type(3);
        x.undo();
        x.undo();
        due("12: both are back behind another typed", x.typed(0) * 10 + x.typed(1), 12);
    }

    private static void undoAndRedo() {
        NearSpell x = Check.told("word ab 1;");
        due("12: none", x.undo(), false);
        due("13: none", x.redo(), false);
        x.learn(s("cd"), 2);
        x.use(1);
        x.forget(0);
        due("12: the latest first", x.undo(), true);
        due("12: not forgotten", x.entry(0, 0), s("ab"));
        due("12: used still", x.entry(1, 2), 3);
        due("8 and 9 of about", x.about(8) * 10 + x.about(9), 21);
        x.undo();
        due("12: used no more", x.entry(1, 2), 2);
        x.undo();
        due("12: not learnt", x.about(2), 1);
        due("12: no more", x.undo(), false);
        due("about(9)", x.about(9), 3);
        due("13: learnt again", x.redo() ? x.entry(1, 0) : -5, s("cd"));
        due("13: used again", x.redo() ? x.entry(1, 2) : -5, 3);
        due("13: a call that does nothing keeps it", x.learn(s("cd"), 1) == -1 && x.redo(), true);
        due("13: forgotten again", x.entry(0, 0), -1);
        due("13: no more", x.redo(), false);
        x.undo();
        x.use(0);
        due("13: not behind another act", x.redo(), false);
        due("about(9) then", x.about(9), 0);
        x.undo();
        x.undo();
        x.undo();
        due("12: a number is given again", x.learn(s("ef"), 0), 1);
        due("12: and spelled anew", x.entry(1, 0), s("ef"));
    }

    private static void fortyActs() {
        NearSpell x = Check.told("word ab 0;");
        for (int i = 1; i <= 45; i++) {
            x.use(0);
        }
        due("12: 40 are kept", x.about(8), 40);
        int undone = 0;
        while (undone < 100 && x.undo()) {
            undone++;
        }
        due("12: 40 taken back", undone, 40);
        due("12: the oldest went", x.entry(0, 2), 5);
        due("13: 40 can be done again", x.about(9), 40);
        int done = 0;
        while (done < 100 && x.redo()) {
            done++;
        }
        due("13: 40 done again", done, 40);
        due("13: all as before", x.entry(0, 2), 45);
        x.use(0);
        due("12: still 40", x.about(8), 40);
    }
}

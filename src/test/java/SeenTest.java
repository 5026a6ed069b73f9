/** Promises 40 to 48: what lies there, what is seen in two times, images, about. */
public final class SeenTest {
    private static final Check CHECK = new Check();

    public static void main(String[] args) {
        lies();
        seen();
        thirtySeen();
        later();
        twoTimes();
        ask();
        images();
        about();
        CHECK.finish();
    }

    private static void due(String call, long got, long want) {
        CHECK.due(call, got, want);
    }

    private static void due(String call, boolean got, boolean want) {
        CHECK.due(call, got, want);
    }

    private static int s(String letters) {
        return Check.s(letters);
    }

    private static void lies() {
        NearSpell x = Check.told("word ab 1;");
        due("40: nothing", x.lies(0), -2);
        x.forms(s("a"));
        due("40: the first", x.lies(0), 0);
        due("40: the second", x.lies(1), 1);
        due("40: no third", x.lies(2), -2);
        due("40: below 0", x.lies(-1), -2);
        x.learn(s("cd"), 1);
        x.type(1);
        x.undo();
        x.nearest(1);
        due("40: it stays till other numbers lie there", x.lies(1), 1);
        Check.book(x, "word cd 1");
        due("40: behind a fault too", x.lies(1), 1);
        Check.book(x, "word cd 1;");
        due("40: not behind a book", x.lies(0), -2);
    }

    private static void seen() {
        NearSpell none = new NearSpell();
        none.learn(s("ab"), 1);
        due("41: no words told", none.seen(s("ab"), 1, true), -1);
        NearSpell x = Check.told("word abc 1;word abd 1;word xyz 1;");
        due("44: all fit", x.fits(0), 0b111);
        due("41: the first", x.seen(s("abc"), 1, true), 0);
        due("44: two fit", x.fits(0), 0b011);
        due("41: was not", x.seen(s("abc"), 0, false), 1);
        due("44: one fits", x.fits(0), 0b010);
        due("41: d 7", x.seen(s("abc"), 7, true), -1);
        due("41: d -1", x.seen(s("abc"), -1, true), -1);
        due("41: can't be", x.seen(27, 1, true), -1);
        due("41: about(10)", x.about(10), 2);
        x.forget(1);
        x.learn(s("abe"), 1);
        due("44: words of the book as told", x.fits(0), 0b010);
        due("42: untold", x.untell(1), true);
        due("42: already", x.untell(1), false);
        due("42: none such", x.untell(2), false);
        due("42: below 0", x.untell(-1), false);
        due("44: untold at the same time", x.fits(0), 0b011);
        due("41: still seen", x.about(10), 2);
        x.seen(s("abc"), 6, false);
        due("44: none fits", x.fits(0), 0);
        due("45: none fits", x.ask(0, 0), -1);
        due("12: no act", x.about(8), 2);
    }

    private static void thirtySeen() {
        NearSpell x = Check.told("word ab 1;");
        for (int i = 0; i < 30; i++) {
            due("41: number " + i, x.seen(s("ab"), 6, true), i);
        }
        due("41: there are 30", x.seen(s("ab"), 6, true), -1);
        x.untell(3);
        due("41: still 30", x.seen(s("ab"), 6, true), -1);
        due("42: the last", x.untell(29), true);
        due("42: behind the last", x.untell(30), false);
    }

    private static void later() {
        NearSpell x = new NearSpell();
        due("43: 0", x.later(0), 0);
        due("43: 1000", x.later(1000), 1000);
        due("43: 1001", x.later(1001), -1);
        due("43: -1", x.later(-1), -1);
        due("43: the time", x.about(11), 1000);
        for (int i = 2; i <= 99; i++) {
            x.later(1000);
        }
        due("43: 99999", x.later(999), 99999);
        due("43: above 100000", x.later(2), -1);
        due("43: 100000", x.later(1), 100000);
        due("43: no further", x.later(1), -1);
        due("43: but stays", x.later(0), 100000);
        due("43: far above", x.later(Integer.MAX_VALUE), -1);
    }

    private static void twoTimes() {
        NearSpell x = Check.told("word abc 1;word xyz 1;");
        x.later(10);
        x.seen(s("abc"), 0, true);
        x.later(5);
        x.untell(0);
        x.seen(s("xyz"), 1, true);
        due("44: before it was told", x.fits(9), 0b11);
        due("44: far before", x.fits(Integer.MIN_VALUE), 0b11);
        due("44: when told", x.fits(10), 0b01);
        due("44: before it was untold", x.fits(14), 0b01);
        due("44: when untold", x.fits(15), 0b10);
        due("44: far behind", x.fits(Integer.MAX_VALUE), 0b10);
        due("44: no words", new NearSpell().fits(0), 0);
    }

    private static void ask() {
        // Distances from aaa: 0 1 2 3; from aab: 1 0 1 2; and so on.
        NearSpell x = Check.told("word aab 1;word aaa 1;word abb 1;word bbb 1;");
        due("45: the word", x.ask(0, 0), 1);
        due("45: left at the most", x.ask(1, 0), 1);
        due("45: what 2", x.ask(2, 0), -1);
        due("45: what -1", x.ask(-1, 0), -1);
        x.seen(s("aab"), 1, true);
        // aab, aaa, abb fit: from aab 0 1 1; from aaa 1 0 2.
        due("45: of those that fit", x.ask(0, 0) * 10 + x.ask(1, 0), 11);
        due("45: as known before", x.ask(0, -1) * 10 + x.ask(1, -1), 11);
        NearSpell y = Check.told("word ab 1;word cd 1;word ef 1;");
        y.seen(s("ab"), 0, false);
        // cd, ef fit: from ab both are at 2; from cd they are at 0 and 2.
        due("45: y", y.ask(0, 0) * 10 + y.ask(1, 0), 11);
        NearSpell z = Check.told("word abx 1;word bax 1;word aby 1;");
        z.seen(s("abx"), 0, false);
        // bax, aby fit: from abx, which doesn't fit, both are at 1; from bax 0 and 2.
        due("45: z", z.ask(0, 0) * 10 + z.ask(1, 0), 11);
        NearSpell w = Check.told("word baaaaa 1;word accaaa 1;word dcaeaa 1;word aaaaaa 1;");
        w.seen(s("aaaaaa"), 0, false);
        // The first three fit, each two of them 3 apart; from the last, which doesn't, 1 2 3.
        due("45: a word that doesn't fit", w.ask(0, 0) * 10 + w.ask(1, 0), 31);
        NearSpell ten = Check.told("word a 1;word b 1;word c 1;word d 1;word e 1;word f 1;word g 1;word h 1;word i 1;word j 1;");
        due("45: nine at the most by each, the first", ten.ask(0, 0) * 10 + ten.ask(1, 0), 9);
        NearSpell one = Check.told("word ab 1;");
        due("45: one word alone", one.ask(0, 0) * 10 + one.ask(1, 0), 1);
        NearSpell wide = Check.told("word zzzzzz 1;word aa 1;word abcdef 1;word bcdefg 1;");
        due("45: six apart counts too", wide.ask(0, 0) * 10 + wide.ask(1, 0), 21);
        due("45: no words", new NearSpell().ask(0, 0), -1);
    }

    private static void images() {
        NearSpell x = Check.told("word ab 5;word cd 6;slips 20;draw 3;");
        due("47: nothing kept", x.back(0), -1);
        due("46: box 3", x.image(3), -1);
        due("46: box -1", x.image(-1), -1);
        x.learn(s("ef"), 7);
        x.forget(0);
        x.type(s("cd"));
        x.seen(1, 1, true);
        due("46: kept", x.image(0), 2);
        due("46: no act", x.about(8), 3);
        int seed = x.about(7);
        x.undo();
        x.undo();
        x.use(0);
        x.learn(s("gh"), 1);
        x.learn(s("ij"), 1);
        x.type(1);
        due("46: another box", x.image(2), 5);
        x.undo();
        due("47: back", x.back(0), 2);
        due("47: entries", x.about(1), 2);
        due("47: numbers", x.about(2), 3);
        due("47: forgotten as then", x.entry(0, 0), -1);
        due("47: the phrase", x.about(3) * 1000 + x.typed(0), 1000 + s("cd"));
        due("47: the seed", x.about(7), seed);
        due("47: no acts", x.about(8) * 100 + x.about(9), 0);
        due("47: nothing to take back", x.undo(), false);
        due("47: nothing to do again", x.redo(), false);
        due("47: what is seen stays", x.about(10), 1);
        x.use(1);
        due("47: an act behind it", x.undo() && !x.undo(), true);
        due("47: again", x.back(0), 2);
        due("47: the other box", x.back(2), 5);
        due("47: its uses", x.entry(0, 2), 6);
        due("47: an empty box", x.back(1), -1);
        due("47: box 3", x.back(3), -1);
        due("47: box -1", x.back(-1), -1);
        due("46: a box kept anew", x.image(0) == 5 && x.forget(4) == 4 && x.back(0) == 5, true);
        Check.book(x, "");
        due("47: boxes are empty behind a book", x.back(0), -1);
    }

    private static void about() {
        NearSpell x = Check.told("word ab 5;word cd 6;prefix 3;errors 1;buckets 9;slips 10;draw 4;hash total % (length + 2);");
        x.learn(s("ef"), 1);
        x.learn(s("gh"), 1);
        x.forget(1);
        x.type(s("xy"));
        x.use(0);
        x.undo();
        x.seen(1, 1, false);
        x.seen(1, 2, false);
        x.later(8);
        x.feed(0, 0, 0, 0, 0);
        x.forms(s("abc"));
        int[] want = {2, 3, 4, 1, 3, 1, 9, 619, 4, 1, 2, 8, 20, 4, 4, 10};
        for (int i = 0; i < want.length; i++) {
            due("48: about(" + i + ")", x.about(i), want[i]);
        }
        due("48: about(16)", x.about(16), -1);
        due("48: about(-1)", x.about(-1), -1);
    }
}

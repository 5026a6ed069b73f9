import java.util.function.Consumer;
import java.util.function.ToLongFunction;

/**
 * Every sentence of promises 2 to 48 by which a call is refused: what it answers, and that it left
 * all as it was. The last argument that is still taken stands in the Edges tests.
 */
public final class RefusedTest {
    private static final Check CHECK = new Check();
    private static final Twins TWINS = new Twins(CHECK);
    private static final int LOW = Integer.MIN_VALUE;
    private static final int HIGH = Integer.MAX_VALUE;
    /** Below 0, a last letter of 0, one within, one behind the first, seven letters, far more. */
    private static final int[] NO_SPELLINGS = {-1, LOW, 27, 54, 729, 730, 19683 + 28, 27 * 28, 387420489, 387420490, HIGH};
    private static final int[] NO_DISTANCES = {-1, 7, LOW, HIGH};

    public static void main(String[] args) {
        tape();
        acts();
        fullActs();
        noActs();
        whatThereIsNot();
        spellings();
        distances();
        seen();
        boxes();
        CHECK.finish();
    }

    /** Something of everything: acts done and undone, boxes, things seen, untold, lying, on the tape. */
    private static void rich(NearSpell x) {
        Check.book(x, "word cat 5;word cart 3;word at 999;word dog 1;prefix 3;errors 1;hash total + length * 2;buckets 7;slips 30;draw 7;");
        x.later(5);
        x.seen(Check.s("cot"), 2, true);
        x.seen(Check.s("dog"), 0, false);
        x.later(1);
        x.untell(0);
        x.image(0);
        x.learn(Check.s("cut"), 0);
        x.forget(3);
        x.type(Check.s("act"));
        x.type(Check.s("dig"));
        x.image(2);
        x.use(0);
        x.type(Check.s("cart"));
        x.use(1);
        x.undo();
        x.undo();
        x.forms(Check.s("cat"));
        Check.feed(x, "word tape 4;");
    }

    /** 14 numbers given, one of them forgotten, 6 typed. */
    private static void full(NearSpell x) {
        Check.book(x, "word aa 1;word bb 2;");
        for (int i = 2; i < 14; i++) {
            x.learn(Check.s("c") * 27 + i, i);
        }
        x.forget(13);
        for (int i = 1; i <= 6; i++) {
            x.type(i);
        }
    }

    private static void refused(String call, Consumer<NearSpell> way, ToLongFunction<NearSpell> tried, long want) {
        TWINS.nothingDone(call, way, tried, want);
    }

    private static void none(String call, ToLongFunction<NearSpell> tried) {
        refused(call, RefusedTest::rich, tried, -1);
    }

    private static void tape() {
        Consumer<NearSpell> nearlyFull = x -> {
            for (int i = 0; i < 80; i++) {
                x.feed(0x20202020, 0x20202020, 0x20202020, 0x20202020, 0x20202020);
            }
            x.end(1581);
        };
        refused("2: nothing comes, if there would be more than 1,600", nearlyFull, x -> x.feed(0, 0, 0, 0, 0), -1);
        refused("2: nothing comes behind 1,600", nearlyFull.andThen(x -> x.end(1580)).andThen(x -> x.feed(0x3b3b3b3b, 0, 0, 0, 0)), x -> x.feed(0, 0, 0, 0, 0), -1);
        none("3: it has not so many", x -> x.end(13));
        none("3: far from so many", x -> x.end(HIGH));
        none("3: n is below 0", x -> x.end(-1));
        none("3: n is far below 0", x -> x.end(LOW));
        for (int what : new int[] {-1, 2, LOW, HIGH}) {
            none("5: NONE for another what " + what, x -> x.fault(what));
        }
        Consumer<NearSpell> faulty = x -> {
            rich(x);
            Check.feed(x, "word tape 5;");
        };
        // The twin, too, tells of the fault; all else is as it was ahead of the book.
        NearSpell plain = new NearSpell();
        faulty.accept(plain);
        java.util.List<String> before = Twins.tellAll(plain);
        NearSpell asked = new NearSpell();
        faulty.accept(asked);
        CHECK.due("4: NONE: a FAULT", asked.book(), -1);
        java.util.List<String> behind = Twins.tellAll(asked);
        CHECK.due("5: its FAULT and its place", behind.get(0).equals("fault 3 17"), true);
        CHECK.due("4: all stays", behind.subList(1, behind.size()).equals(before.subList(1, before.size())), true);
    }

    private static void acts() {
        for (int spelling : NO_SPELLINGS) {
            none("7: it can't be: " + spelling, x -> x.learn(spelling, 1));
            refused("10: it can't be: " + spelling, RefusedTest::rich, x -> x.type(spelling), -2);
        }
        for (int used : new int[] {-1, 1000, LOW, HIGH}) {
            none("7: used " + used, x -> x.learn(Check.s("new"), used));
        }
        none("7: a WORD is spelled so", x -> x.learn(Check.s("cat"), 1));
        none("7: a learnt ENTRY is spelled so", x -> x.learn(Check.s("cut"), 1));
        for (int entry : new int[] {-1, 3, 5, 13, 14, LOW, HIGH}) {
            none("8: there is none such: " + entry, x -> x.forget(entry));
            none("9: there is none such: " + entry, x -> x.use(entry));
        }
        none("9: 999 times", x -> x.use(2));
    }

    private static void fullActs() {
        Consumer<NearSpell> full = RefusedTest::full;
        refused("7: there were 14", full, x -> x.learn(Check.s("new"), 1), -1);
        refused("7: there were 14, a forgotten one's number stays free for nobody", full, x -> x.learn(Check.s("c") * 27 + 13, 1), -1);
        refused("10: there are 6", full, x -> x.type(1), -2);
        refused("10: there are 6, the empty one too", full, x -> x.type(0), -2);
    }

    private static void noActs() {
        Consumer<NearSpell> told = x -> Check.book(x, "word ab 1;word cd 2;");
        refused("11: there were none", told, NearSpell::wipe, -1);
        refused("11: there were none behind a wipe", told.andThen(x -> x.type(1)).andThen(NearSpell::wipe), NearSpell::wipe, -1);
        refused("12: false if there is none", told, x -> x.undo() ? 1 : 0, 0);
        refused("12: false if all was taken back", told.andThen(x -> x.use(0)).andThen(NearSpell::undo), x -> x.undo() ? 1 : 0, 0);
        refused("13: false if there is none", told.andThen(x -> x.use(0)), x -> x.redo() ? 1 : 0, 0);
        refused("13: false if all was done again", told.andThen(x -> x.use(0)).andThen(NearSpell::undo).andThen(NearSpell::redo), x -> x.redo() ? 1 : 0, 0);
        refused("13: false behind another ACT", told.andThen(x -> x.use(0)).andThen(NearSpell::undo).andThen(x -> x.use(1)), x -> x.redo() ? 1 : 0, 0);
    }

    private static void whatThereIsNot() {
        for (int i : new int[] {-1, 2, 5, 6, LOW, HIGH}) {
            none("14: there is none such: " + i, x -> x.typed(i));
        }
        for (int i : new int[] {-1, 1, 2, 5, LOW, HIGH}) {
            none("23: there are none such: " + i, x -> x.join(i, 0));
        }
        for (int entry : new int[] {-1, 3, 5, 14, LOW, HIGH}) {
            none("6: there is none such: " + entry, x -> x.entry(entry, 0));
            none("30: one can't be: " + entry, x -> x.chain(entry, 0, 6));
            none("30: the other can't be: " + entry, x -> x.chain(0, entry, 6));
        }
        for (int what : new int[] {-1, 2, 3, 4, 16, LOW, HIGH}) {
            whatNot(what);
        }
        for (int bucket : new int[] {-1, 7, 13, 31, LOW, HIGH}) {
            none("33: there is none such: " + bucket, x -> x.load(bucket));
        }
        for (int n : new int[] {-1, 3, LOW, HIGH}) {
            none("38: NONE for another n " + n, x -> x.law(n));
        }
        for (int n : new int[] {-1, 5, LOW, HIGH}) {
            none("39: n can't be: " + n, x -> x.odds(n, 0));
            none("39: n can't be, the lower part: " + n, x -> x.odds(n, 1));
        }
        for (int i : new int[] {-1, 4, 21, 22, LOW, HIGH}) {
            refused("40: there is none such: " + i, RefusedTest::rich, x -> x.lies(i), -2);
        }
    }

    private static void whatNot(int what) {
        int cat = Check.s("cat");
        if (what < 0 || what > 1) {
            none("23: NONE for another what " + what, x -> x.join(0, what));
            none("28: what can't be " + what, x -> x.far(1, what));
            none("39: part can't be " + what, x -> x.odds(1, what));
            none("45: NONE for another what " + what, x -> x.ask(what, 0));
        }
        if (what < 0 || what > 2) {
            none("18: what can't be " + what, x -> x.met(cat, what));
            none("22: what can't be " + what, x -> x.split(cat, what));
            none("26: NONE for another what " + what, x -> x.closest(what));
        }
        if (what < 0 || what > 3) {
            none("6: NONE for another what " + what, x -> x.entry(0, what));
        }
        if (what < 0 || what > 15) {
            none("48: NONE for another what " + what, x -> x.about(what));
        }
    }

    private static void spellings() {
        int cat = Check.s("cat");
        for (int spelling : NO_SPELLINGS) {
            none("15: one can't be: " + spelling, x -> x.distance(spelling, cat));
            none("15: the other can't be: " + spelling, x -> x.distance(cat, spelling));
            none("17: it can't be: " + spelling, x -> x.bucket(spelling));
            none("18: it can't be: " + spelling, x -> x.met(spelling, 0));
            none("19: it can't be: " + spelling, x -> x.missed(spelling, 6));
            none("20: it can't be: " + spelling, x -> x.nearest(spelling));
            none("22: it can't be: " + spelling, x -> x.split(spelling, 2));
            none("31: it can't be: " + spelling, x -> x.begins(spelling));
            none("41: it can't be: " + spelling, x -> x.seen(spelling, 1, true));
            nothingLies("16: NONE, nothing, if it can't be: " + spelling, x -> x.forms(spelling));
            nothingLies("21: NONE, nothing, if it can't be: " + spelling, x -> x.near(spelling, 1));
        }
    }

    /** As behind a call by which none came to lie there. */
    private static void nothingLies(String call, ToLongFunction<NearSpell> tried) {
        TWINS.alike(call, RefusedTest::rich, x -> x.near(Check.s("zzzzzz"), 0), tried, -1);
    }

    private static void distances() {
        int cat = Check.s("cat");
        for (int d : NO_DISTANCES) {
            none("19: d can't be: " + d, x -> x.missed(cat, d));
            nothingLies("21: NONE, nothing, if d can't be: " + d, x -> x.near(cat, d));
            none("27: NONE for another d " + d, x -> x.groups(d));
            none("28: d can't be: " + d, x -> x.far(d, 0));
            none("28: d can't be, as bits: " + d, x -> x.far(d, 1));
            none("30: d can't be: " + d, x -> x.chain(0, 0, d));
            none("32: NONE for another d " + d, x -> x.crowded(d));
            none("41: d can't be: " + d, x -> x.seen(cat, d, true));
        }
    }

    private static void seen() {
        Consumer<NearSpell> thirty = x -> {
            Check.book(x, "word ab 1;word cd 2;");
            for (int i = 0; i < 30; i++) {
                x.seen(1, 6, true);
            }
            x.untell(29);
        };
        refused("41: there are 30", thirty, x -> x.seen(1, 6, true), -1);
        Consumer<NearSpell> learnt = x -> x.learn(Check.s("ab"), 1);
        refused("41: no WORDS were told", learnt, x -> x.seen(1, 1, true), -1);
        refused("41: no WORDS in the book", learnt.andThen(x -> Check.book(x, "prefix 3;")), x -> x.seen(1, 1, true), -1);
        refused("42: it is so already", RefusedTest::rich, x -> x.untell(0) ? 1 : 0, 0);
        refused("42: it is so already at a later TIME", RefusedTest.later(), x -> x.untell(0) ? 1 : 0, 0);
        for (int seen : new int[] {-1, 2, 29, 30, LOW, HIGH}) {
            refused("42: there is none such: " + seen, RefusedTest::rich, x -> x.untell(seen) ? 1 : 0, 0);
        }
        for (int by : new int[] {-1, 1001, LOW, HIGH}) {
            none("43: NONE for another number " + by, x -> x.later(by));
        }
        Consumer<NearSpell> late = x -> {
            for (int i = 0; i < 99; i++) {
                x.later(1000);
            }
            x.later(1);
        };
        refused("43: it would be above 100,000", late, x -> x.later(1000), -1);
        refused("43: it would be above 100,000 by 1", late.andThen(x -> x.later(999)), x -> x.later(1), -1);
        refused("45: none FITS", thirty.andThen(x -> x.untell(0)).andThen(x -> Check.book(x, "")), x -> x.ask(0, 0), -1);
    }

    private static Consumer<NearSpell> later() {
        Consumer<NearSpell> rich = RefusedTest::rich;
        return rich.andThen(x -> x.later(7));
    }

    private static void boxes() {
        for (int box : new int[] {-1, 3, LOW, HIGH}) {
            none("46: there is none such: " + box, x -> x.image(box));
            none("47: nothing was kept in " + box, x -> x.back(box));
        }
        none("47: nothing was kept", x -> x.back(1));
        Consumer<NearSpell> rich = RefusedTest::rich;
        refused("47: nothing is kept behind a book", rich.andThen(x -> Check.book(x, "word a 1;")).andThen(x -> x.use(0)), x -> x.back(0), -1);
    }
}

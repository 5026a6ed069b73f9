import java.util.ArrayList;
import java.util.List;
import java.util.function.Consumer;
import java.util.function.ToLongFunction;

/**
 * Two objects that went the same way, then one of them is asked for one call more. What both tell by
 * the whole face afterwards shows whether that call did anything. No object gets 512 calls.
 */
final class Twins {
    private final Check check;

    Twins(Check check) {
        this.check = check;
    }

    /** The call answers what is due and leaves all as it was. */
    void nothingDone(String call, Consumer<NearSpell> way, ToLongFunction<NearSpell> tried, long want) {
        alike(call, way, x -> { }, tried, want);
    }

    /** The call answers what is due and leaves what the other way, gone by the twin, leaves. */
    void alike(String call, Consumer<NearSpell> way, Consumer<NearSpell> other, ToLongFunction<NearSpell> tried, long want) {
        NearSpell plain = new NearSpell();
        NearSpell asked = new NearSpell();
        way.accept(plain);
        way.accept(asked);
        other.accept(plain);
        check.due(call, tried.applyAsLong(asked), want);
        compare(call, tellAll(asked), tellAll(plain));
    }

    private void compare(String call, List<String> got, List<String> want) {
        int at = 0;
        while (at < got.size() && at < want.size() && got.get(at).equals(want.get(at))) {
            at++;
        }
        boolean same = at == got.size() && at == want.size();
        String unlike = same ? "" : ": " + (at < got.size() ? got.get(at) : "nothing") + " for " + (at < want.size() ? want.get(at) : "nothing");
        check.due(call + " leaves what is due" + unlike, same, true);
    }

    /** Some 400 calls at the most; the object is used up by them. */
    static List<String> tellAll(NearSpell x) {
        List<String> all = new ArrayList<>();
        all.add("fault " + x.fault(0) + " " + x.fault(1));
        for (int i = 0; i < 16; i++) {
            all.add("about(" + i + ") " + x.about(i));
        }
        for (int i = 0; i < 22; i++) {
            all.add("lies(" + i + ") " + x.lies(i));
        }
        tellSeen(x, all);
        tellEntries(x, all);
        tellActs(x, all);
        for (int box = 0; box < 3; box++) {
            all.add("back(" + box + ") " + x.back(box) + " " + x.about(2) + " " + x.about(3) + " " + x.about(7) + " " + x.typed(0));
        }
        all.add("tape " + x.book() + " " + x.fault(0) + " " + x.fault(1) + " " + x.entry(0, 0));
        return all;
    }

    private static void tellSeen(NearSpell x, List<String> all) {
        int time = x.about(11);
        for (int k = time - 2; k <= time; k++) {
            all.add("fits(" + k + ") " + x.fits(k));
        }
        for (int i = 0; i < 30 && i <= x.about(10); i++) {
            all.add("untell(" + i + ") " + x.untell(i));
        }
    }

    private static void tellEntries(NearSpell x, List<String> all) {
        for (int i = 0; i < 14; i++) {
            all.add("entry " + i + " " + x.entry(i, 0) + " " + x.entry(i, 2));
        }
        for (int i = 0; i < 6; i++) {
            all.add("typed(" + i + ") " + x.typed(i));
        }
        all.add("buckets " + x.bucket(1) + " " + x.bucket(Check.s("dab")) + " forms " + x.law(2));
    }

    private static void tellActs(NearSpell x, List<String> all) {
        int undone = 0;
        while (undone < 41 && x.undo()) {
            undone++;
            all.add("undone " + x.about(1) + " " + x.about(3) + " " + x.about(7));
        }
        int done = 0;
        while (done < 41 && x.redo()) {
            done++;
        }
        all.add("acts " + undone + " " + done + " " + x.about(1) + " " + x.about(3) + " " + x.about(7));
    }
}

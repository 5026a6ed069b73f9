/** Promises 33 to 39: what lies in the buckets, other numbers of errors, odds. */
public final class BucketsTest {
    private static final Check CHECK = new Check();

    public static void main(String[] args) {
        buckets();
        noEntries();
        clashes();
        rarest();
        law();
        odds();
        CHECK.finish();
    }

    private static void due(String call, long got, long want) {
        CHECK.due(call, got, want);
    }

    private static void buckets() {
        // Forms: ab, a, b; abc, ab, ac, bc; by their lengths.
        NearSpell x = Check.told("word ab 1;word abc 1;prefix 3;errors 1;hash length;buckets 5;");
        due("33: of 0 letters", x.load(0), 0);
        due("33: of 1", x.load(1), 2);
        due("33: of 2, one of both entries twice", x.load(2), 4);
        due("33: of 3", x.load(3), 1);
        due("33: none such", x.load(5), -1);
        due("33: below 0", x.load(-1), -1);
        due("34: the fullest", x.fullest(), 2);
        due("35: all", x.store(), 7);
        x.forget(1);
        due("33: then", x.load(2), 1);
        due("34: then", x.fullest(), 1);
        due("35: then", x.store(), 3);
        NearSpell y = Check.told("word ab 1;errors 0;hash 30;buckets 31;word cd 1;");
        due("34: the last bucket", y.fullest(), 30);
        due("33: the last bucket", y.load(30), 2);
        NearSpell z = Check.told("word ab 1;word cde 1;errors 0;hash length;");
        due("34: of like ones the first", z.fullest(), 2);
    }

    private static void noEntries() {
        NearSpell x = new NearSpell();
        due("33: no entries", x.load(12), 0);
        due("33: no bucket", x.load(13), -1);
        due("34: no entries", x.fullest(), 0);
        due("35: no entries", x.store(), 0);
        due("36: no entries", x.clashes(), 0);
        due("37: no entries", x.rarest(), -1);
        due("38: no entries", x.law(2), 0);
    }

    private static void clashes() {
        // Unlike forms: ab a b abc ac bc: two of one letter, three of two, one of three.
        NearSpell x = Check.told("word ab 1;word abc 1;prefix 3;errors 1;hash length;");
        due("36: each once", x.clashes(), 1 + 3);
        NearSpell y = Check.told("word ab 1;word abc 1;prefix 3;errors 1;buckets 1;");
        due("36: all in one bucket", y.clashes(), 15);
        y.forget(0);
        due("36: of one entry", y.clashes(), 6);
    }

    private static void rarest() {
        NearSpell x = Check.told("word ab 1;word abc 1;word abd 1;prefix 3;errors 1;");
        // ab has a, b alone; abc: abc, ac, bc; abd: abd, ad, bd.
        due("37: of like ones the first", x.rarest(), 1);
        x.learn(Check.s("ac"), 0);
        due("37: then", x.rarest(), 2);
        NearSpell y = Check.told("word abc 1;word abd 1;prefix 2;");
        due("37: none has one of its own", y.rarest(), 0);
        y.forget(0);
        due("37: alone", y.rarest(), 1);
    }

    private static void law() {
        NearSpell x = Check.told("word abcd 1;word aa 1;errors 0;");
        due("38: 0", x.law(0), 2);
        due("38: 1", x.law(1), 5 + 2);
        due("38: 2", x.law(2), 11 + 3);
        due("38: 3", x.law(3), -1);
        due("38: -1", x.law(-1), -1);
        due("38: nothing is done", x.about(5), 0);
        due("35: store by errors", x.store(), 2);
    }

    private static void odds(String book, int n, int upper, int lower) {
        NearSpell x = Check.told(book);
        due("39: upper of " + n + " by " + book, x.odds(n, 0), upper);
        due("39: lower of " + n + " by " + book, x.odds(n, 1), lower);
    }

    private static void odds() {
        odds("slips 30;draw 5;", 0, 1, 1);
        odds("slips 30;draw 5;", 1, 7, 10);
        odds("slips 30;draw 5;", 2, 49, 100);
        odds("slips 30;draw 500;", 4, 2401, 10000);
        odds("slips 1;", 4, 96059601, 100000000);
        odds("slips 50;", 4, 1, 16);
        odds("slips 100;", 0, 1, 1);
        odds("slips 100;", 1, 0, 1);
        odds("slips 100;", 4, 0, 1);
        odds("slips 0;", 3, 1, 1);
        NearSpell x = Check.told("slips 30;");
        due("39: n 5", x.odds(5, 0), -1);
        due("39: n -1", x.odds(-1, 0), -1);
        due("39: part 2", x.odds(1, 2), -1);
        due("39: part -1", x.odds(1, -1), -1);
    }
}

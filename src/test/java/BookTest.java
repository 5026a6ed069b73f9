/** Promises 1 to 5: a new object, the tape, the book and its faults. */
public final class BookTest {
    private static final Check CHECK = new Check();

    public static void main(String[] args) {
        newObject();
        feedAndEnd();
        bookStartsAnew();
        faultStays();
        noTokens();
        misplaced();
        tooMany();
        toldAlready();
        numbersThatCannotBe();
        depths();
        CHECK.finish();
    }

    private static void due(String call, long got, long want) {
        CHECK.due(call, got, want);
    }

    private static void fault(String text, int kind, int place) {
        due("fault of '" + text + "'", Check.faultOf(text), kind * 10000 + place);
    }

    private static void sound(String text) {
        due("fault of '" + text + "'", Check.faultOf(text), 0);
    }

    private static void newObject() {
        NearSpell x = new NearSpell();
        int[] want = {0, 0, 0, 0, 4, 2, 13, 0, 0, 0, 0, 0, 0, 0, 0, 0};
        for (int i = 0; i < want.length; i++) {
            due("1: about(" + i + ")", x.about(i), want[i]);
        }
        due("1: fault(0)", x.fault(0), 0);
        due("1: fault(1)", x.fault(1), -1);
        due("1: bucket of ab by total * 7 + length", x.bucket(Check.s("ab")), (3 * 7 + 2) % 13);
        due("1: NONE", NearSpell.NONE, -1);
    }

    private static void feedAndEnd() {
        NearSpell x = new NearSpell();
        for (int i = 1; i <= 80; i++) {
            due("2: feed " + i, x.feed(0, 0, 0, 0, 0), 20 * i);
        }
        due("2: feed beyond 1600", x.feed(0, 0, 0, 0, 0), -1);
        due("2: about(12)", x.about(12), 1600);
        due("3: end(1601)", x.end(1601), -1);
        due("3: end(-1)", x.end(-1), -1);
        due("3: end(1600)", x.end(1600), 1600);
        due("3: end(1581)", x.end(1581), 1581);
        due("2: feed with 19 bytes of room", x.feed(0, 0, 0, 0, 0), -1);
        due("3: end(1580)", x.end(1580), 1580);
        due("2: feed with just the room", x.feed(0, 0, 0, 0, 0), 1600);
        due("3: end(0)", x.end(0), 0);
        due("3: end(1)", x.end(1), -1);
        due("3: about(12)", x.about(12), 0);
        // The highest byte comes first: "word", " a 1", ";   ".
        x.feed(0x776f7264, 0x20612031, 0x3b202020, 0x20202020, 0x20202020);
        due("2: book() of highest bytes first", x.book(), 1);
        due("2: its word", x.entry(0, 0), 1);
        x.feed(0xffffffff, 0, 0, 0, 0);
        due("2: a byte of 255", x.book(), -1);
        due("2: is no token", x.fault(0) * 100 + x.fault(1), 100);
    }

    private static void bookStartsAnew() {
        NearSpell x = Check.told("word ab 5;word cd 6;draw 9;slips 50;");
        x.later(7);
        x.learn(Check.s("x"), 1);
        x.type(Check.s("ab"));
        x.undo();
        x.seen(1, 1, true);
        x.image(2);
        x.forms(Check.s("abc"));
        due("4: book() of an empty tape", Check.book(x, ""), 0);
        int[] want = {0, 0, 0, 0, 4, 2, 13, 0, 0, 0, 0, 7, 0, 0, 0, 0};
        for (int i = 0; i < want.length; i++) {
            due("4: about(" + i + ")", x.about(i), want[i]);
        }
        due("4: boxes are empty", x.back(2), -1);
        due("4: undo()", x.undo() ? 1 : 0, 0);
        due("4: words", Check.book(x, "word ab 5 ; word cd 0 ; word e 999 ; draw 77 ; prefix 6 ; errors 0 ; buckets 31 ; slips 100 ; hash 1 + (2) ;"), 3);
        int[] then = {3, 3, 3, 0, 6, 0, 31, 77, 0, 0, 0, 7, 0, 3, 0, 100};
        for (int i = 0; i < then.length; i++) {
            due("4: about(" + i + ") then", x.about(i), then[i]);
        }
        due("4: used", x.entry(2, 2), 999);
        due("4: blanks part tokens or not", Check.book(x, "word\nab 5;word cd6;"), 2);
        due("4: a name with a number behind it", x.entry(1, 0) * 10 + x.entry(1, 2), Check.s("cd") * 10 + 6);
    }

    private static void faultStays() {
        NearSpell x = Check.told("word ab 5;hash first;");
        x.type(Check.s("ab"));
        x.seen(1, 1, true);
        x.image(0);
        x.forms(Check.s("ab"));
        due("4: a fault", Check.book(x, "word cd 1;word"), -1);
        due("5: fault(0)", x.fault(0), 2);
        due("5: fault(1): the end", x.fault(1), 14);
        due("5: fault(2)", x.fault(2), -1);
        due("5: fault(-1)", x.fault(-1), -1);
        int[] want = {1, 1, 1, 1, 4, 2, 13, 71, 1, 0, 1, 0, 14, 1, 4, 0};
        for (int i = 0; i < want.length; i++) {
            due("4: all stays: about(" + i + ")", x.about(i), want[i]);
        }
        due("4: the word stays", x.entry(0, 0), Check.s("ab"));
        due("4: hash stays", x.bucket(Check.s("cb")), 3);
        due("4: the box stays", x.back(0), 1);
        due("4: the text gone on with", x.end(10) == 10 ? x.book() : -5, 1);
        due("5: no fault", x.fault(0), 0);
        due("5: no place", x.fault(1), -1);
    }

    private static void noTokens() {
        fault("word ab 5;$", 1, 10);
        fault("Word ab 5;", 1, 0);
        fault("word\tab 5;", 1, 4);
        fault("word ab 5,", 1, 9);
        fault("word abcdefghi 5;", 1, 5);
        fault("word ab 12345;", 1, 8);
        fault("word ab 00001;", 1, 8);
        fault("word ab 5x;", 1, 8);
        fault("hash 7or 3;", 1, 5);
        fault("hash 7 or 3$;", 1, 11);
        sound("word ab 0005;");
        sound("hash(7)or(3);");
        sound("");
        sound(" \n ");
    }

    private static void misplaced() {
        fault("5;", 2, 0);
        fault("ab 5;", 2, 0);
        fault("word ab 5", 2, 9);
        fault("word ab 5 ", 2, 10);
        fault("word ab;", 2, 7);
        fault("word 5 ab;", 2, 5);
        fault("word ab cd;", 2, 8);
        fault("prefix -1;", 2, 7);
        fault("prefix;", 2, 6);
        fault("hash;", 2, 4);
        fault("hash ab;", 2, 5);
        fault("hash 1 < 2 < 3;", 2, 11);
        fault("hash 1 + not 2;", 2, 9);
        fault("hash (1;", 2, 7);
        fault("hash 1);", 2, 6);
        fault("hash 1 2;", 2, 7);
        fault("hash - 1;", 2, 5);
        fault("hash total and;", 2, 14);
        fault(";", 2, 0);
        fault("or 5;", 2, 0);
        for (String own : Model.OWN) {
            fault("word " + own + " 5;", 2, 5);
        }
        sound("word line 1;word both 2;word one 3;word sum 4;word term 5;word unit 6;word e 7;word n 8;word name 9;word book 10;");
        // Names that are nearly one of the words that stand for themselves.
        sound("word ford 1;word words 2;word wor 3;word fast 4;word las 5;word lasts 6;word cash 7;word o 8;word orr 9;word nor 10;");
        fault("hash latal;", 2, 5);
        fault("sash 1;", 2, 0);
        sound("hash not not 1 and not (2 or 3) < 4 * 5 / 6 % 7 - first + last or length = total;");
    }

    private static void tooMany() {
        String ten = "word a 1;word b 1;word c 1;word d 1;word e 1;word f 1;word g 1;word h 1;word i 1;word j 1;";
        sound(ten);
        fault(ten + " word k 1;", 2, 91);
        fault(ten + "word a $;", 2, 90);
        fault("prefix 3;prefix 3;", 2, 9);
        fault("errors 1;errors 1;", 2, 9);
        fault("hash 1;hash 1;", 2, 7);
        fault("buckets 1;buckets 1;", 2, 10);
        fault("slips 1;slips 1;", 2, 8);
        fault("draw 1;draw 1;", 2, 7);
        StringBuilder thirty = new StringBuilder("hash 1");
        for (int i = 1; i < 30; i++) {
            thirty.append("+1");
        }
        sound(thirty + ";");
        due("30 units", Check.told(thirty + ";").about(13), 30);
        fault(thirty + "+ total;", 2, 66);
        fault(thirty + "+ (1);", 2, 66);
        String twentyEight = thirty.substring(0, thirty.length() - 4);
        sound(twentyEight + "+(1);");
        fault(twentyEight + "+((1));", 2, twentyEight.length() + 3);
    }

    private static void toldAlready() {
        fault("word ab 5;word ab 6;", 3, 15);
        fault("word ab 5;word ab $", 3, 15);
        sound("word ab 5;word abb 6;");
    }

    private static void numbersThatCannotBe() {
        fault("word abcdefg 5;", 4, 5);
        fault("word abcdefgh 5;", 4, 5);
        sound("word abcdef 5;");
        fault("word ab 1000;", 4, 8);
        sound("word ab 999;word cd 0;");
        fault("prefix 0;", 4, 7);
        fault("prefix 7;", 4, 7);
        sound("prefix 1;");
        sound("prefix 6;");
        fault("errors 3;", 4, 7);
        sound("errors 0;");
        sound("errors 2;");
        fault("buckets 0;", 4, 8);
        fault("buckets 32;", 4, 8);
        sound("buckets 1;");
        sound("buckets 31;");
        fault("slips 101;", 4, 6);
        sound("slips 100;");
        sound("slips 0;");
        fault("draw 1000;", 4, 5);
        sound("draw 999;");
        sound("hash 9999;");
    }

    private static void depths() {
        sound("hash (((((((1)))))));");
        fault("hash ((((((((1))))))));", 2, 12);
        sound("hash not not not not not not not 1;");
        fault("hash not not not not not not not not 1;", 2, 33);
        sound("hash (not (not (not (1))));");
        fault("hash (not (not (not (not 1))));", 2, 21);
        fault("hash not (not (not (not (1))));", 2, 24);
        // Those that are closed again don't count.
        sound("hash (((((((1))))))) + (((((((1)))))));");
    }
}

/** The limits that the Terms name for the BOOK: the last text that is taken, the first that is not. */
public final class BookEdgesTest {
    private static final Check CHECK = new Check();
    private static final String TEN = "word a 0;word b 1;word c 2;word d 3;word e 4;word f 5;word g 6;word h 7;word i 8;word j 9;";
    private static final String REST = "prefix 3;errors 1;hash total;buckets 5;slips 2;draw 8;";

    public static void main(String[] args) {
        newObject();
        sixteenHundredBytes();
        tapeCutAndGoneOnWith();
        everyByte();
        tokenLengths();
        asLongAsCanBe();
        letterBehindNumber();
        ownWords();
        tenWords();
        onceEach();
        ranges();
        notTold();
        units();
        within();
        leastAtOnePlace();
        firstByPlace();
        theEnd();
        leftOut();
        aNewBook();
        CHECK.finish();
    }

    private static void due(String call, long got, long want) {
        CHECK.due(call, got, want);
    }

    private static void fault(String text, int kind, int place) {
        due("fault of '" + text + "'", Check.faultOf(text), kind * 10000 + place);
    }

    private static void sound(String text) {
        due("fault of '" + text + "'", Check.faultOf(text), 0);
    }

    private static void newObject() {
        NearSpell x = new NearSpell();
        due("1: an empty BOOK", x.about(0) + x.about(1) + x.about(2) + x.about(3), 0);
        due("1: prefix 4, errors 2, 13 buckets", x.about(4) * 1000 + x.about(5) * 100 + x.about(6), 4213);
        due("5: no FAULT without a book()", x.fault(0), 0);
        due("5: no place", x.fault(1), -1);
        due("4: the empty TAPE is the BOOK", x.book(), 0);
        due("1: NONE", NearSpell.NONE, -1);
    }

    private static String padded(String ahead, String behind, int bytes) {
        return ahead + " ".repeat(bytes - ahead.length() - behind.length()) + behind;
    }

    private static void sixteenHundredBytes() {
        sound(padded("word a", "999;", 1600));
        fault(padded("word a", "999", 1600), 2, 1600);
        fault(padded("word a 5;", "$", 1600), 1, 1599);
        fault(padded("word a", "word", 1600), 2, 1596);
        NearSpell x = new NearSpell();
        Check.feed(x, padded("word a 7;", "word b 9;", 1600));
        due("2: a feed more", x.feed(0x3b3b3b3b, 0x3b3b3b3b, 0x3b3b3b3b, 0x3b3b3b3b, 0x3b3b3b3b), -1);
        due("4: the text of 1,600 bytes is as it was", x.book(), 2);
        due("4: the TAPE is empty then", x.about(12), 0);
        due("2: twenty come again", x.feed(0, 0, 0, 0, 0), 20);
    }

    private static void tapeCutAndGoneOnWith() {
        NearSpell x = new NearSpell();
        due("3: the empty TAPE has its first 0", x.end(0), 0);
        due("3: not its first 1", x.end(1), -1);
        Check.feed(x, "word abcd 5;word xyz");
        due("3: as many as it has", x.end(20), 20);
        due("3: one more", x.end(21), -1);
        due("3: one less", x.end(19), 19);
        due("3: what went is gone", x.end(20), -1);
        x.end(7);
        Check.feed(x, "q 6;");
        due("2: behind the first n", x.about(12), 11);
        due("4: one WORD", x.book(), 1);
        due("4: spelled of both parts", x.entry(0, 0), Check.s("abq"));
        due("4: an empty TAPE is a BOOK too", x.book(), 0);
        due("4: without ENTRIES", x.about(1), 0);
    }

    /** Each byte alone as a text: what is a blank, what is a TOKEN, what is none. */
    private static void everyByte() {
        String tokens = "abcdefghijklmnopqrstuvwxyz0123456789;()<>=+-*/%";
        for (int sign = 0; sign < 256; sign++) {
            String text = String.valueOf((char) sign);
            if (sign == 32 || sign == 10) {
                sound(text);
            } else {
                fault(text, tokens.indexOf(sign) >= 0 ? 2 : 1, 0);
                fault("word a 5;" + text, tokens.indexOf(sign) >= 0 ? 2 : 1, 9);
            }
        }
    }

    private static void tokenLengths() {
        // 8 letters are a TOKEN (no NAME yet), 9 are none; 4 digits are one, 5 are none.
        fault("word abcdefgh 1;", 4, 5);
        fault("word abcdefghi 1;", 1, 5);
        fault("abcdefgh", 2, 0);
        fault("abcdefghi", 1, 0);
        fault("word a 9999;", 4, 7);
        fault("word a 10000;", 1, 7);
        sound("word a 0999;");
        fault("word a 00999;", 1, 7);
        sound("hash 9999;");
        fault("hash 99999;", 1, 5);
        fault("hash 1 + 00000;", 1, 9);
        fault("word " + "a".repeat(1595), 1, 5);
        fault("draw " + "1".repeat(1595), 1, 5);
        fault("draw " + "0".repeat(1594) + ";", 1, 5);
    }

    private static void asLongAsCanBe() {
        fault("worda 5;", 2, 0);
        fault("word a 5;worda 5;", 2, 9);
        sound("word a5;word\nb\n\n6\n;");
        sound("prefix3;errors1;hash(total);buckets5;slips2;draw8;");
        fault("prefix 1 2;", 2, 9);
        sound("prefix\n \n1 ;");
        fault("hash not1;hash", 2, 10);
        fault("hash notlast;", 2, 5);
        sound("hash 1<2;");
        fault("hash 1<>2;", 2, 7);
        fault("hash 1<=2;", 2, 7);
        fault("hash 1 + + 2;", 2, 9);
    }

    private static void letterBehindNumber() {
        fault("word a 5b;", 1, 7);
        fault("hash 1and 2;", 1, 5);
        sound("hash 1 and 2;");
        sound("hash 1\nand 2;");
        sound("hash 1<first;");
        fault("draw 1234x;", 1, 5);
        // Another sign than a letter, a number's end: the fault is the sign's.
        fault("draw 123$;", 1, 8);
        fault("draw 123A;", 1, 8);
    }

    private static void ownWords() {
        for (String own : new String[] {"word", "prefix", "errors", "hash", "buckets", "slips", "draw", "or", "and", "not", "total", "length", "first", "last"}) {
            fault("word " + own + " 5;", 2, 5);
            if (own.length() < 6) {
                sound("word " + own + "x 5;");
                sound("word x" + own + " 5;");
            }
            if (own.length() < 7) {
                sound("word q" + own.substring(1) + " 5;");
                sound("word " + own.substring(0, own.length() - 1) + "q 5;");
            }
            fault("q" + own.substring(1) + " 5;", 2, 0);
            sound("word " + own.substring(0, 1) + " 5;");
        }
        sound("word e 1;word n 2;word name 3;word line 4;word book 5;word both 6;word one 7;word sum 8;word term 9;word unit 10;");
    }

    private static void tenWords() {
        sound(TEN);
        sound(TEN + REST);
        sound(REST + TEN);
        due("4: ten WORDS", Check.told(TEN).about(0), 10);
        due("4: numbered as told", Check.told(TEN).entry(9, 0) * 10 + Check.told(TEN).entry(9, 2), Check.s("j") * 10 + 9);
        fault(TEN + "word k 1;", 2, 90);
        fault(TEN + "\n word k 1;", 2, 92);
        fault(TEN + REST + "word k 1;", 2, 90 + REST.length());
        fault(TEN + "word", 2, 90);
        fault(TEN + "word a 1;", 2, 90);
        sound("word a 1;word aa 1;word aaa 1;word aaaa 1;word aaaaa 1;word aaaaaa 1;");
        sound("word abcdef 1;");
        fault("word abcdefg 1;", 4, 5);
        fault("word a 1;word b 1;word a 1;", 3, 23);
        fault("word abcdef 1;word abcdef 1;", 3, 19);
    }

    private static void onceEach() {
        for (String line : REST.split("(?<=;)")) {
            sound(line);
            fault(line + line, 2, line.length());
            fault(line + "word q 1;" + line, 2, line.length() + 9);
            fault(line + " " + line.substring(0, line.indexOf(' ')), 2, line.length() + 1);
        }
        sound(REST);
    }

    /** Every N to 1,001, and the greatest, in each line. */
    private static void ranges() {
        String[] heads = {"word a ", "prefix ", "errors ", "buckets ", "slips ", "draw "};
        int[] least = {0, 1, 0, 1, 0, 0};
        int[] most = {999, 6, 2, 31, 100, 999};
        for (int i = 0; i < heads.length; i++) {
            for (int n = 0; n <= 1002; n++) {
                int number = n == 1002 ? 9999 : n;
                boolean taken = number >= least[i] && number <= most[i];
                due(heads[i] + number, Check.faultOf(heads[i] + number + ";"), taken ? 0 : 40000 + heads[i].length());
            }
        }
        int[] about = {4, 5, 6, 15, 7};
        for (int i = 1; i < heads.length; i++) {
            due(heads[i] + "at least", Check.told(heads[i] + least[i] + ";").about(about[i - 1]), least[i]);
            due(heads[i] + "at the most", Check.told(heads[i] + most[i] + ";").about(about[i - 1]), most[i]);
        }
        due("word a 0", Check.told("word a 0;").entry(0, 2), 0);
        due("word a 999", Check.told("word a 999;").entry(0, 2), 999);
    }

    private static void notTold() {
        NearSpell x = Check.told("word abcdef 1;");
        due("prefix 4 if not told", x.about(4), 4);
        due("errors 2", x.about(5), 2);
        due("buckets 13", x.about(6), 13);
        due("slips 0", x.about(15), 0);
        due("draw 0", x.about(7), 0);
        due("no units", x.about(13), 0);
        due("hash total * 7 + length, if it is not told", x.bucket(Check.s("abcdef")), (21 * 7 + 6) % 13);
        due("told otherwise", Check.book(x, REST), 0);
        due("and not told again", Check.book(x, ""), 0);
        due("prefix 4 again", x.about(4) * 1000 + x.about(5) * 100 + x.about(6), 4213);
        due("slips, draw, units 0 again", x.about(15) + x.about(7) + x.about(13), 0);
        due("hash as not told again", x.bucket(Check.s("ab")), (3 * 7 + 2) % 13);
    }

    private static void units() {
        String thirty = "hash 1" + "+1".repeat(29);
        sound(thirty + ";");
        due("48: 30 units", Check.told(thirty + ";").about(13), 30);
        for (String more : new String[] {"1", "9999", "total", "length", "first", "last", "(1)", "("}) {
            fault(thirty + " * " + more + ";", 2, thirty.length() + 3);
            fault(thirty + "or not " + more + ";", 1, thirty.length() - 1);
            fault(thirty + " or not " + more + ";", 2, thirty.length() + 8);
        }
        String twentyNine = "hash 1" + "+1".repeat(28);
        sound(twentyNine + "+last;");
        fault(twentyNine + "+(1);", 2, twentyNine.length() + 2);
        fault(twentyNine + "+(1;", 2, twentyNine.length() + 2);
        String nested = "hash ((1+2)*(3))+(((4)))";
        due("48: a unit ( e ) counts too", Check.told(nested + ";").about(13), 10);
        sound(nested + "-1".repeat(20) + ";");
        fault(nested + "-1".repeat(20) + "-1;", 2, nested.length() + 41);
        due("48: signs and not are no units", Check.told("hash not 1 < 2 and not total or 3 = 4;").about(13), 5);
        // One that can't stand there is so wherever units end.
        fault(thirty + "+;", 2, thirty.length() + 1);
    }

    private static void within() {
        String open = "(";
        for (int nots = 0; nots <= 8; nots++) {
            for (int brackets = 0; brackets <= 8; brackets++) {
                String ahead = "hash " + "not ".repeat(nots) + open.repeat(brackets);
                String text = ahead + "1" + ")".repeat(brackets) + ";";
                int eighth = nots > 7 ? 5 + 4 * 7 : 5 + 4 * nots + 7 - nots;
                due("fault of '" + text + "'", Check.faultOf(text), nots + brackets <= 7 ? 0 : 20000 + eighth);
            }
        }
        // Those that stand side by side lie not within one another.
        sound("hash (((((((1))))))) * (((((((2)))))));");
        sound("hash not not not not not not not 1 and not not not not not not not 1;");
        sound("hash (1) and ((2) and ((3) and ((4) and ((5) and (6)))));");
        fault("hash (((((((1 + (2))))))));", 2, 16);
        fault("hash (((((((1 and not 2)))))));", 2, 18);
        fault("hash (((((((not 2)))))));", 2, 12);
        sound("hash ((((((not 2))))));");
        due("bucket within 6 others", Check.told("hash (((((((5)))))));").bucket(0), 5);
        due("bucket behind 7 nots", Check.told("hash not not not not not not not 0;").bucket(0), 1);
    }

    private static void leastAtOnePlace() {
        // No TOKEN, that could not stand there either.
        fault("prefix abcdefghi;", 1, 7);
        fault("prefix 3 12345;", 1, 9);
        fault("hash 12345;", 1, 5);
        // One that can't stand there, that is a number or NAME that can't be, too.
        fault("word 1000 a;", 2, 5);
        fault("prefix abcdefg;", 2, 7);
        fault("prefix 3 1000;", 2, 9);
        fault("abcdefg 1;", 2, 0);
        fault("hash abcdefg;", 2, 5);
        // A number that can't be, with a letter directly behind it.
        fault("prefix 9x;", 1, 7);
        // A NAME of 7 letters is told already by nobody.
        fault("word abcdef 1;word abcdefg 1;", 4, 19);
    }

    private static void firstByPlace() {
        fault("word a 1000;$", 4, 7);
        fault("word a $;word b 1000;", 1, 7);
        fault("word a 1;word a 1000;", 3, 14);
        fault("word abcdefg 1000;", 4, 5);
        fault("prefix 9;prefix 9;", 4, 7);
        fault("prefix 3;prefix 9;", 2, 9);
        fault("prefix 3 prefix 3;", 2, 9);
        fault("word a 5 word a 5;", 2, 9);
        fault("hash (1 + 2;$", 2, 11);
        fault("hash 1 $ 2;", 1, 7);
        fault("slips 101$", 4, 6);
    }

    private static void theEnd() {
        String[] texts = {"word", "word a", "word a 5", "prefix", "prefix 3", "hash", "hash 1", "hash (", "hash (1", "hash not", "hash 1 +", "hash 1 <", "hash 1 and", "hash 1 or", "hash 1 *"};
        for (String text : texts) {
            fault(text, 2, text.length());
            fault(text + " \n ", 2, text.length() + 3);
            fault("draw 5;" + text, 2, text.length() + 7);
        }
        sound("draw 5; \n");
    }

    /** Where a part of a line is left out, the TOKEN behind it can't stand there. */
    private static void leftOut() {
        for (String head : new String[] {"word", "prefix", "errors", "hash", "buckets", "slips", "draw"}) {
            fault(head + ";", 2, head.length());
            fault(head + " ;", 2, head.length() + 1);
            fault(head + ")", 2, head.length());
            fault(head + " word a 5;", 2, head.length() + 1);
        }
        for (String inner : new String[] {"or", "and", "not", "total", "length", "first", "last"}) {
            fault(inner + " 5;", 2, 0);
            fault("word a 5;" + inner + " 5;", 2, 9);
        }
        fault("word a;", 2, 6);
        fault("word a b;", 2, 7);
        fault("hash ();", 2, 6);
        fault("hash 1+;", 2, 7);
        fault("hash 1 *;", 2, 8);
        fault("hash not;", 2, 8);
        fault("hash 1 and;", 2, 10);
        fault("hash 1 or;", 2, 9);
        fault("hash 1 <;", 2, 8);
        fault("hash (1;", 2, 7);
        fault("hash 1);", 2, 6);
        fault("draw 5;;", 2, 7);
    }

    /** All that a BOOK makes anew, and what stays. */
    private static void aNewBook() {
        NearSpell x = Check.told(TEN + REST);
        x.later(3);
        for (int i = 0; i < 4; i++) {
            x.learn(Check.s("learnt"), 1);
            x.learn(Check.s("z") * 27 + 1 + i, 1);
            x.type(i);
            x.seen(i, 6, true);
        }
        x.undo();
        x.image(0);
        x.image(1);
        x.image(2);
        x.forms(Check.s("abc"));
        due("4: how many WORDS", Check.book(x, "word cat 7;draw 12;"), 1);
        int[] want = {1, 1, 1, 0, 4, 2, 13, 12, 0, 0, 0, 3, 0, 0, 0, 0};
        for (int i = 0; i < want.length; i++) {
            due("4: about(" + i + ") of a new BOOK", x.about(i), want[i]);
        }
        due("4: BOXES are empty then", x.back(0) + x.back(1) + x.back(2), -3);
        due("4: no ACTS are kept", x.undo() || x.redo() ? 1 : 0, 0);
        due("4: nothing is SEEN", x.untell(0) ? 1 : 0, 0);
        due("4: nothing lies there", x.lies(0), -2);
        due("4: nothing typed", x.typed(0), -1);
        due("4: what was learnt is no ENTRY", x.entry(1, 0), -1);
        due("5: no FAULT", x.fault(0), 0);
        due("5: no place", x.fault(1), -1);
        due("4: a FAULT", Check.book(x, "word"), -1);
        due("5: the latest book()'s FAULT", x.fault(0) * 10 + x.fault(1), 24);
        due("4: a second FAULT", Check.book(x, "draw 5000;"), -1);
        due("5: that one's", x.fault(0) * 10 + x.fault(1), 45);
        x.end(0);
        due("5: it stays till the next book()", x.fault(0) * 10 + x.fault(1), 45);
        due("4: then none", x.book(), 0);
        due("5: no FAULT then", x.fault(0) * 10 + x.fault(1), -1);
    }
}

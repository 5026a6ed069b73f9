/** What all tests share: counting wrong answers, telling texts and spellings. */
final class Check {
    private int wrong = 0;
    private int count = 0;

    void due(String call, long got, long want) {
        count++;
        if (got != want) {
            wrong++;
            System.out.println(call + " answered " + got + ", due is " + want);
        }
    }

    void due(String call, boolean got, boolean want) {
        due(call, got ? 1 : 0, want ? 1 : 0);
    }

    void finish() {
        System.out.println(wrong == 0 ? count + " answers are as due" : wrong + " of " + count + " answers are not as due");
        if (wrong != 0) {
            System.exit(1);
        }
    }

    /** Puts a text on the tape of an object. */
    static void feed(NearSpell x, String text) {
        int before = x.about(12);
        for (int at = 0; at < text.length(); at += 20) {
            int[] numbers = new int[5];
            for (int i = 0; i < 20; i++) {
                int sign = at + i < text.length() ? text.charAt(at + i) & 255 : 32;
                numbers[i / 4] = numbers[i / 4] << 8 | sign;
            }
            x.feed(numbers[0], numbers[1], numbers[2], numbers[3], numbers[4]);
        }
        x.end(before + text.length());
    }

    static int book(NearSpell x, String text) {
        x.end(0);
        feed(x, text);
        return x.book();
    }

    static NearSpell told(String text) {
        NearSpell x = new NearSpell();
        if (book(x, text) < 0) {
            throw new IllegalStateException("a fault " + x.fault(0) + " at " + x.fault(1) + " in " + text);
        }
        return x;
    }

    /** The fault of a text and its place, as fault * 10000 + place; 0 if it has none. */
    static int faultOf(String text) {
        NearSpell x = new NearSpell();
        if (book(x, text) >= 0) {
            return x.fault(0) == 0 && x.fault(1) == NearSpell.NONE ? 0 : -1;
        }
        return x.fault(0) * 10000 + x.fault(1);
    }

    /** The number of a spelling. */
    static int s(String letters) {
        int number = 0;
        for (int i = 0; i < letters.length(); i++) {
            number = number * 27 + letters.charAt(i) - 'a' + 1;
        }
        return number;
    }

    /** The letters of a number that can be a spelling. */
    static String letters(int spelling) {
        StringBuilder letters = new StringBuilder();
        for (int rest = spelling; rest > 0; rest /= 27) {
            letters.insert(0, (char) ('a' + rest % 27 - 1));
        }
        return letters.toString();
    }
}

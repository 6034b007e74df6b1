import java.nio.charset.StandardCharsets;

/** What the tests share: a count of wrong answers, and ways to write a tower. */
final class Check {
    static final int NONE = PouredTopmost.NONE;
    static final int UNKNOWN = PouredTopmost.UNKNOWN;
    static final int OUTSIDE = PouredTopmost.OUTSIDE;
    static final int STATE = PouredTopmost.STATE;
    static final int FULL = PouredTopmost.FULL;

    private static int wrong = 0;
    private static String sentence = "";

    private Check() {
    }

    /** The words of the document that the checks behind it hold the class to. */
    static void says(String words) {
        sentence = words;
    }

    static void due(String what, long got, long want) {
        if (got != want) {
            wrong++;
            String told = sentence.isEmpty() ? "" : "\"" + sentence + "\": ";
            System.out.println(told + what + ": answered " + got + ", due is " + want);
        }
    }

    static void isTrue(String what, boolean got) {
        due(what, got ? 1 : 0, 1);
    }

    /** The fraction that two parts tell. */
    static void fraction(String what, long above, long below, long wantAbove, long wantBelow) {
        due(what + ", above", above, wantAbove);
        due(what + ", below", below, wantBelow);
    }

    /** Up to eight letters as letters() takes them. */
    static long word(String text) {
        byte[] bytes = text.getBytes(StandardCharsets.ISO_8859_1);
        long w = 0;
        for (int i = 0; i < bytes.length; i++) {
            w |= (bytes[i] & 255L) << (8 * i);
        }
        return w;
    }

    /** Writes a text behind the page: what the last call of letters() answered. */
    static int write(PouredTopmost x, String text) {
        int answer = x.count(3);
        for (int from = 0; from < text.length(); from += 8) {
            answer = x.letters(word(text.substring(from, Math.min(text.length(), from + 8))));
        }
        return answer;
    }

    /** A new object with this page. */
    static PouredTopmost written(String text) {
        PouredTopmost x = new PouredTopmost();
        write(x, text);
        return x;
    }

    /** A new object with this tower. */
    static PouredTopmost standing(String text) {
        PouredTopmost x = written(text);
        isTrue("tower " + text, x.tower() > 0);
        return x;
    }

    static void inGlass(PouredTopmost x, int glass, long above, long below) {
        fraction("in(" + glass + ")", x.in(glass, 0), x.in(glass, 1), above, below);
    }

    static void drunkFrom(PouredTopmost x, int glass, long above, long below) {
        fraction("drunk(" + glass + ")", x.drunk(glass, 0), x.drunk(glass, 1), above, below);
    }

    static void ofAll(PouredTopmost x, int what, long above, long below) {
        fraction("all(" + what + ")", x.all(what, 0), x.all(what, 1), above, below);
    }

    /** What is told of a refusal: the answer, and that nothing has changed by it. */
    interface Call {
        long answer();
    }

    static void refused(PouredTopmost x, String what, Call call, long want) {
        long before = x.digest();
        due(what, call.answer(), want);
        due(what + " changes nothing", x.digest(), before);
    }

    /** The number that the document makes of others, in their order. */
    static long hash(long... numbers) {
        long h = 631;
        for (long number : numbers) {
            h = 31 * h + number;
        }
        return h;
    }

    static void end() {
        if (wrong != 0) {
            System.out.println(wrong + " answers are not as due");
            System.exit(1);
        }
    }
}

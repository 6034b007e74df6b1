/** Promises 1 to 7: a new object, and the tower. */
public final class TowerTest {
    /** Nine glasses, 62 letters: no tower is longer. */
    private static final String LONGEST =
        "c9:123/k9:234/l9:345/s9:456/c9:567/k9:678/l9:78-/s9:88-/c9:---";

    public static void main(String[] args) {
        constants();
        newObject();
        lettersAreWritten();
        lettersOutside();
        lettersFull();
        blankEmptiesThePage();
        faultOfEachPlace();
        faultOfNumbers();
        towerIsRead();
        towerIsNone();
        anotherTower();
        aboutEachKind();
        aboutShares();
        aboutTurnAndFull();
        asKinds();
        Check.end();
    }

    private static void constants() {
        Check.due("NONE", PouredTopmost.NONE, -1);
        Check.due("UNKNOWN", PouredTopmost.UNKNOWN, -101);
        Check.due("OUTSIDE", PouredTopmost.OUTSIDE, -102);
        Check.due("STATE", PouredTopmost.STATE, -103);
        Check.due("FULL", PouredTopmost.FULL, -104);
    }

    /** Promise 1: no tower, so that no number names a glass. */
    private static void newObject() {
        PouredTopmost x = new PouredTopmost();
        for (int what = 0; what <= 5; what++) {
            Check.due("new count " + what, x.count(what), 0);
        }
        Check.due("about", x.about(0, 0), Check.UNKNOWN);
        Check.due("as", x.as(0, 0), Check.UNKNOWN);
        Check.due("pour", x.pour(0, 1), Check.UNKNOWN);
        Check.due("in", x.in(0, 0), Check.UNKNOWN);
        Check.due("drink", x.drink(0), Check.UNKNOWN);
        Check.due("drunk", x.drunk(0, 0), Check.UNKNOWN);
        Check.due("need", x.need(0, 0), Check.UNKNOWN);
        Check.due("costs", x.costs(0, 1, 0), Check.UNKNOWN);
        Check.due("turn", x.turn(0, 0), Check.UNKNOWN);
        Check.due("needAll", x.needAll(0), Check.STATE);
        Check.due("change", x.change(1, 0), Check.STATE);
        Check.due("evening", x.evening(1, 1), Check.STATE);
        Check.due("chips", x.chips(0), Check.STATE);
        Check.due("alike", x.alike(3), Check.STATE);
        Check.due("pourings", x.pourings(1, 0, 0), Check.STATE);
        Check.due("image", x.image(), Check.STATE);
        Check.due("restore", x.restore(), Check.STATE);
        Check.due("tower", x.tower(), Check.STATE);
        Check.due("fault", x.fault(), 0);
        Check.due("blank", x.blank(), 0);
        Check.due("clear", x.clear(), 0);
        Check.ofAll(x, 0, 0, 1);
        Check.ofAll(x, 1, 0, 1);
    }

    /** Promise 2. */
    private static void lettersAreWritten() {
        PouredTopmost x = new PouredTopmost();
        Check.due("none", x.letters(0), 0);
        Check.due("one", x.letters(Check.word("2")), 1);
        Check.due("eight", x.letters(Check.word(":12/34/5")), 9);
        Check.due("none behind nine", x.letters(0), 9);
        Check.due("least code", x.letters(1), 10);
        Check.due("greatest code", x.letters(126), 11);
        Check.due("lowest byte first", x.fault(), 6);
        Check.due("count", x.count(3), 11);
    }

    private static void lettersOutside() {
        PouredTopmost x = new PouredTopmost();
        Check.write(x, "3/4");
        long[] wrong = {127, 128, 255, -1, Long.MIN_VALUE, 127L << 56, 0x3100L, 0x310031L,
            1L << 56, 0x0100000000000031L};
        for (long w : wrong) {
            Check.refused(x, "letters " + w, () -> x.letters(w), Check.OUTSIDE);
        }
        Check.due("page stays", x.count(3), 3);
        Check.due("126 above a letter", x.letters(0x7e31), 5);
    }

    private static void lettersFull() {
        PouredTopmost x = new PouredTopmost();
        for (int i = 1; i <= 8; i++) {
            Check.due("eight more", x.letters(Check.word("11111111")), 8 * i);
        }
        Check.refused(x, "71", () -> x.letters(Check.word("2222222")), Check.FULL);
        Check.due("70", x.letters(Check.word("222222")), 70);
        Check.due("none more", x.letters(0), 70);
        Check.refused(x, "one more", () -> x.letters(50), Check.FULL);
        Check.refused(x, "outside goes first", () -> x.letters(127), Check.OUTSIDE);
    }

    /** Promise 3. */
    private static void blankEmptiesThePage() {
        PouredTopmost x = new PouredTopmost();
        Check.write(x, "2x");
        Check.due("blank", x.blank(), 2);
        Check.due("empty", x.count(3), 0);
        Check.due("again", x.blank(), 0);
        Check.due("fault of nothing", x.fault(), 0);
        Check.due("from its beginning", Check.write(x, "5"), 1);
        Check.due("the tower stays out", x.count(0), 0);
        Check.due("tower", x.tower(), 1);
        Check.due("holds", x.about(0, 1), 5);
        Check.write(x, "77");
        x.blank();
        Check.due("blank leaves the tower", x.count(0), 1);
    }

    private static void fault(String text, int place) {
        PouredTopmost x = new PouredTopmost();
        Check.write(x, text);
        Check.due("fault of " + text, x.fault(), place);
        Check.due("letters stay", x.count(3), text.length());
    }

    /** Promise 4: which letters may stand where. */
    private static void faultOfEachPlace() {
        String[] begun = {"", "1", "9", "c", "k", "l", "s", "c9", "1:", "1:-", "1:--", "1:---",
            "1/", "1/l", "1:8", "1:888", "1:-2-", "3:12/l3:34/c2:4-/s1:4/4", LONGEST};
        for (String text : begun) {
            fault(text, text.length());
        }
        String[] firstWrong = {"0", "C", "x", "/", ":", "-", " ", "d"};
        for (String text : firstWrong) {
            fault(text, 0);
        }
        fault("c0", 1);
        fault("cc", 1);
        fault("c:", 1);
        fault("c/", 1);
        fault("11", 1);
        fault("1c", 1);
        fault("1-", 1);
        fault("1:/", 2);
        fault("1::", 2);
        fault("1:c", 2);
        fault("1:1:", 3);
        fault("1:1c", 3);
        fault("1:1111", 5);
        fault("1:----", 5);
        fault("1//", 2);
        fault("1/0", 2);
        fault("x1:", 0);
        fault("1xx", 1);
    }

    /** Promise 4: numbers are greater than this one's, and 8 at most. */
    private static void faultOfNumbers() {
        fault("1:0", 2);
        fault("1:9", 2);
        fault("1/1:1", 4);
        fault("1/1:2", 5);
        fault("1/1:21", 5);
        String seven = "1/1/1/1/1/1/1/";
        fault(seven + "1:7", 16);
        fault(seven + "1:8", 17);
        fault(seven + "1:9", 16);
        String eight = seven + "1/";
        fault(eight + "1:8", 18);
        fault(eight + "1:9", 18);
        fault(eight + "1:", 18);
        fault(eight + "1:-", 19);
        fault(eight + "1:--8", 20);
        fault(eight + "1/", 17);
        fault(eight + "1:-/", 19);
        fault(LONGEST + "-", LONGEST.length());
        fault(LONGEST + "/", LONGEST.length());
    }

    /** Promise 5. */
    private static void towerIsRead() {
        PouredTopmost x = new PouredTopmost();
        Check.write(x, "1");
        Check.due("one glass", x.tower(), 1);
        Check.due("the page is empty then", x.count(3), 0);
        Check.due("read once", x.count(4), 1);
        PouredTopmost y = new PouredTopmost();
        Check.write(y, LONGEST);
        Check.due("nine glasses", y.tower(), 9);
        Check.due("glasses", y.count(0), 9);
        Check.due("last", y.about(8, 6), 9);
        Check.due("no tenth", y.about(9, 0), Check.UNKNOWN);
    }

    private static void towerIsNone() {
        String[] none = {"", "c", "1:", "1/", "1/c", "1/1:", "x", "1:1", "1:12/1", "1/1:2",
            "1:8/1/1/1/1/1/1/1", "1:-1", "1:1x", "1/1/1/1/1/1/1/1/1/1"};
        for (String text : none) {
            PouredTopmost x = Check.standing("l4:12/3/2");
            x.pour(0, 6);
            x.image();
            Check.write(x, text);
            Check.refused(x, "tower of " + text, x::tower, Check.STATE);
            Check.due("page of " + text, x.count(3), text.length());
            Check.due("image behind " + text, x.restore(), 6);
        }
    }

    private static void anotherTower() {
        PouredTopmost x = Check.standing("c2:1/l3:22-/l1:-");
        x.pour(0, 9);
        x.drink(1);
        x.turn(1, 4);
        x.change(9, 0);
        Check.write(x, "5:1/4");
        Check.due("another", x.tower(), 2);
        Check.due("glasses", x.count(0), 2);
        Check.due("the third is gone", x.about(2, 0), Check.UNKNOWN);
        Check.due("poured", x.count(1), 0);
        Check.due("towers", x.count(4), 2);
        Check.due("changes stay", x.count(5), 1);
        Check.due("turn", x.about(1, 7), 0);
        Check.due("kind is the new one's", x.about(0, 0), 0);
        Check.due("kind is the new one's", x.about(1, 0), 0);
        Check.due("takes", x.about(0, 2), 5);
        Check.due("shares are the new one's", x.about(1, 3), 0);
        Check.due("share", x.about(1, 4), Check.NONE);
        Check.inGlass(x, 0, 0, 1);
        Check.drunkFrom(x, 1, 0, 1);
        Check.ofAll(x, 0, 0, 1);
        Check.ofAll(x, 1, 0, 1);
    }

    /** Promise 6. */
    private static void aboutEachKind() {
        PouredTopmost x = Check.standing("7/c7/k7/l7/s7/c1");
        int[] kinds = {0, 1, 2, 3, 4, 1};
        int[] takes = {7, 6, 0, 7, 0, 0};
        for (int glass = 0; glass < 6; glass++) {
            Check.due("kind of " + glass, x.about(glass, 0), kinds[glass]);
            Check.due("holds of " + glass, x.about(glass, 1), glass == 5 ? 1 : 7);
            Check.due("takes of " + glass, x.about(glass, 2), takes[glass]);
            Check.due("full " + glass, x.about(glass, 8), takes[glass] == 0 ? 1 : 0);
        }
        Check.refused(x, "glass", () -> x.about(6, 0), Check.UNKNOWN);
        Check.refused(x, "glass", () -> x.about(-1, 0), Check.UNKNOWN);
        Check.refused(x, "glass goes first", () -> x.about(6, 9), Check.UNKNOWN);
        Check.refused(x, "what", () -> x.about(0, 9), Check.OUTSIDE);
        Check.refused(x, "what", () -> x.about(5, -1), Check.OUTSIDE);
    }

    private static void aboutShares() {
        PouredTopmost x = Check.standing("1:1-2/1:-/1:33/1");
        int[][] due = {{3, 1, 9, 2}, {1, 9, -1, -1}, {2, 3, 3, -1}, {0, -1, -1, -1}};
        for (int glass = 0; glass < 4; glass++) {
            for (int i = 0; i < 4; i++) {
                Check.due("about " + glass + " " + (3 + i), x.about(glass, 3 + i), due[glass][i]);
            }
        }
    }

    private static void aboutTurnAndFull() {
        PouredTopmost x = Check.standing("2:1/1");
        x.turn(1, 9);
        Check.due("turn", x.about(1, 7), 9);
        Check.due("no turn", x.about(0, 7), 0);
        x.pour(0, 1);
        Check.due("not full", x.about(0, 8), 0);
        x.pour(0, 1);
        Check.due("full", x.about(0, 8), 1);
        Check.due("below not", x.about(1, 8), 0);
        x.drink(0);
        Check.due("emptied", x.about(0, 8), 0);
    }

    /** Promise 7: all are glasses, and a stuck one is corked, too. */
    private static void asKinds() {
        PouredTopmost x = Check.standing("1/c1/k1/l1/s1");
        for (int glass = 0; glass < 5; glass++) {
            for (int kind = 0; kind < 5; kind++) {
                boolean is = kind == 0 || kind == glass || (glass == 4 && kind == 2);
                Check.due("as " + glass + " " + kind, x.as(glass, kind), is ? glass : Check.NONE);
            }
        }
        Check.refused(x, "glass", () -> x.as(5, 0), Check.UNKNOWN);
        Check.refused(x, "glass", () -> x.as(-1, 5), Check.UNKNOWN);
        Check.refused(x, "kind", () -> x.as(0, 5), Check.OUTSIDE);
        Check.refused(x, "kind", () -> x.as(4, -1), Check.OUTSIDE);
    }
}

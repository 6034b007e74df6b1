/** "What it is", the kinds, and promises 1 to 7: a new object, and the tower. */
public final class TowerTest {
    /** Nine glasses, 62 letters: no tower is longer. */
    private static final String LONGEST =
        "c9:123/k9:234/l9:345/s9:456/c9:567/k9:678/l9:78-/s9:88-/c9:---";
    private static final String GLASS_BEGINS = "ckls123456789";

    public static void main(String[] args) {
        constants();
        glassesOneToNine();
        slashesBetween();
        perhapsALetter();
        holdsOneToNine();
        oneToThreeShares();
        greaterNumbers();
        thatAreThere();
        orTheCloth();
        oneMayComeTwice();
        noTower();
        newObjectWithWrongNumbers();
        lettersUpToEight();
        lettersLowestFirst();
        lettersUntilZero();
        lettersHowMany();
        lettersAboveGreatestCode();
        lettersBehindZero();
        lettersFull();
        lettersFirstRefusal();
        blankHowMany();
        blankLeavesTheRest();
        faultOfEachPlace();
        faultOfEachGlass();
        faultOfTheFirst();
        faultOfNone();
        faultOfGlassesThatAreNotThere();
        towerHowMany();
        towerEmptiesThePage();
        towerThatIsNone();
        towerOfGlassesThatAreNotThere();
        anotherIsGone();
        allIsEmpty();
        aboutKindHoldsTakes();
        aboutShares();
        aboutTurn();
        aboutFull();
        aboutRefused();
        asEachKind();
        asRefused();
        Check.end();
    }

    private static void constants() {
        Check.says("NONE = -1, UNKNOWN = -101, OUTSIDE = -102, STATE = -103, FULL = -104");
        Check.due("NONE", PouredTopmost.NONE, -1);
        Check.due("UNKNOWN", PouredTopmost.UNKNOWN, -101);
        Check.due("OUTSIDE", PouredTopmost.OUTSIDE, -102);
        Check.due("STATE", PouredTopmost.STATE, -103);
        Check.due("FULL", PouredTopmost.FULL, -104);
    }

    // ---- the tower as a text

    private static void isTower(String text, int glasses) {
        Check.due("tower " + text, Check.written(text).tower(), glasses);
    }

    /** A page that is none leaves another tower, and itself, as they are. */
    private static void isNone(String text) {
        PouredTopmost x = Check.standing("l4:12/3/2");
        x.pour(0, 6);
        x.image();
        Check.write(x, text);
        Check.refused(x, "tower of " + text, x::tower, Check.STATE);
        Check.due("page of " + text, x.count(3), text.length());
        Check.due("tower behind " + text, x.about(0, 0), 3);
        Check.due("image behind " + text, x.restore(), 6);
    }

    /** So many glasses that hold one, with a slash behind each. */
    private static String ones(int howMany) {
        return "1/".repeat(howMany);
    }

    private static void glassesOneToNine() {
        Check.says("GLASSES (one to nine, numbered)");
        isNone("");
        for (int howMany = 1; howMany <= 9; howMany++) {
            isTower(ones(howMany - 1) + "1", howMany);
        }
        isTower(LONGEST, 9);
        isNone(ones(9) + "1");
        isNone(LONGEST + "/1");
        PouredTopmost x = Check.standing("1/2/3/4/5/6/7/8/9");
        for (int glass = 0; glass < 9; glass++) {
            Check.due("numbered from 0", x.about(glass, 1), glass + 1);
        }
    }

    private static void slashesBetween() {
        Check.says("one behind the other with \"/\" between");
        isNone("/");
        isNone("/1");
        isNone("1/");
        isNone("1//1");
        isNone("11");
        isNone("1 /1");
        isNone("1\\1");
        isNone("1:-/");
        isTower("1/1", 2);
        isTower("1:-/c1", 2);
    }

    private static void perhapsALetter() {
        Check.says("each perhaps a letter");
        String[] texts = {"1", "c1", "k1", "l1", "s1"};
        for (int kind = 0; kind < texts.length; kind++) {
            PouredTopmost x = Check.standing(texts[kind] + "/" + texts[kind]);
            Check.due("kind of the first " + texts[kind], x.about(0, 0), kind);
            Check.due("kind of the second " + texts[kind], x.about(1, 0), kind);
        }
        for (String text : new String[] {"c", "cc1", "kl1", "C1", "K1", "L1", "S1", "g1", "x1", "1c"}) {
            isNone(text);
            isNone("1/" + text);
        }
    }

    private static void holdsOneToNine() {
        Check.says("then a digit HOLDS (1 to 9)");
        for (int holds = 1; holds <= 9; holds++) {
            Check.due("holds", Check.standing("" + holds).about(0, 1), holds);
            Check.due("holds", Check.standing("k" + holds + ":-").about(0, 1), holds);
        }
        for (String text : new String[] {"0", "c0", "10", "c10", "c:-", ":-", "-1", "1/0", "1/c"}) {
            isNone(text);
        }
    }

    private static void oneToThreeShares() {
        Check.says("then perhaps \":\" and one to three digits");
        String[] texts = {"1", "1:1", "1:12", "1:123"};
        for (int shares = 0; shares < texts.length; shares++) {
            Check.due("shares", Check.standing(texts[shares] + "/1/1/1").about(0, 3), shares);
        }
        for (String text : new String[] {"1:", "1:/1", "1/1:", "1:1111/1", "1:----", "1::1/1", "11/1"}) {
            isNone(text);
        }
    }

    private static void greaterNumbers() {
        Check.says("GLASSES of greater numbers that are there");
        for (int glass = 0; glass < 9; glass++) {
            for (int to = 0; to <= 9; to++) {
                String text = ones(glass) + "1:" + to + "/1".repeat(8 - glass);
                if (to > glass && to < 9) {
                    isTower(text, 9);
                } else {
                    isNone(text);
                }
            }
        }
    }

    private static void thatAreThere() {
        Check.says("GLASSES of greater numbers that are there");
        for (int howMany = 1; howMany <= 8; howMany++) {
            String others = "/1".repeat(howMany - 1);
            isNone("1:" + howMany + others);
            isNone("1:-" + howMany + others);
            isNone("1:--8" + others);
            isNone(ones(howMany - 1) + "1:" + howMany);
            if (howMany > 1) {
                isTower("1:" + (howMany - 1) + others, howMany);
            }
        }
    }

    private static void orTheCloth() {
        Check.says("or \"-\": the cloth");
        isTower("1:-", 1);
        isTower(ones(8) + "1:-", 9);
        isTower(ones(8) + "1:---", 9);
        isNone(ones(8) + "1:8");
        isNone("1:_");
        PouredTopmost x = Check.standing("1:-1/1:-");
        Check.due("the cloth is the first", x.about(0, 4), 9);
        Check.due("glass 1 is the second", x.about(0, 5), 1);
    }

    /** It is not said that one may come no more than twice: nothing is counted. */
    private static void oneMayComeTwice() {
        Check.says("one may come twice");
        for (String text : new String[] {"1:11/1", "1:11-/1", "1:1-1/1", "1:-11/1", "1:--1/1", "1:--/1",
            "1:111/1", "1:---/1"}) {
            isTower(text, 2);
        }
    }

    // ---- promise 1

    private static void noTower() {
        Check.says("No TOWER.");
        PouredTopmost x = new PouredTopmost();
        for (int what = 0; what <= 5; what++) {
            Check.due("new count " + what, x.count(what), 0);
        }
        Check.due("about", x.about(0, 0), Check.UNKNOWN);
        Check.due("as", x.as(0, 0), Check.UNKNOWN);
        Check.due("pour", x.pour(0, 1), Check.UNKNOWN);
        Check.due("in", x.in(0, 0), Check.UNKNOWN);
        Check.due("drink", x.drink(0), Check.UNKNOWN);
        Check.due("drunk", x.drunk(0, 0), Check.UNKNOWN);
        Check.due("need", x.need(0, 0), Check.UNKNOWN);
        Check.due("costs", x.costs(0, 1, 0), Check.UNKNOWN);
        Check.due("turn", x.turn(0, 0), Check.UNKNOWN);
        Check.due("needAll", x.needAll(0), Check.STATE);
        Check.due("change", x.change(1, 0), Check.STATE);
        Check.due("evening", x.evening(1, 1), Check.STATE);
        Check.due("chips", x.chips(0), Check.STATE);
        Check.due("alike", x.alike(3), Check.STATE);
        Check.due("pourings", x.pourings(1, 0, 0), Check.STATE);
        Check.due("image", x.image(), Check.STATE);
        Check.due("restore", x.restore(), Check.STATE);
        Check.due("tower", x.tower(), Check.STATE);
        Check.due("fault", x.fault(), 0);
        Check.due("blank", x.blank(), 0);
        Check.due("clear", x.clear(), 0);
        Check.ofAll(x, 0, 0, 1);
        Check.ofAll(x, 1, 0, 1);
        Check.due("digest", x.digest(), new PouredTopmost().digest());
    }

    /** What is told of glasses goes by what() and part() only behind the glass. */
    private static void newObjectWithWrongNumbers() {
        Check.says("No TOWER.");
        PouredTopmost x = new PouredTopmost();
        int[] numbers = {Integer.MIN_VALUE, -1, 0, 1, 8, 9, 10, Integer.MAX_VALUE};
        for (int glass : numbers) {
            Check.due("about", x.about(glass, -1), Check.UNKNOWN);
            Check.due("as", x.as(glass, 5), Check.UNKNOWN);
            Check.due("pour", x.pour(glass, 0), Check.UNKNOWN);
            Check.due("in", x.in(glass, 2), Check.UNKNOWN);
            Check.due("drunk", x.drunk(glass, -1), Check.UNKNOWN);
            Check.due("need", x.need(glass, glass), Check.UNKNOWN);
            Check.due("costs", x.costs(glass, 0, 2), Check.UNKNOWN);
            Check.due("turn", x.turn(glass, 10), Check.UNKNOWN);
            Check.due("drink", x.drink(glass), Check.UNKNOWN);
        }
        Check.due("nothing is there", x.digest(), new PouredTopmost().digest());
    }

    // ---- promise 2

    private static void lettersUpToEight() {
        Check.says("Letters come behind THE PAGE, up to eight");
        for (int howMany = 0; howMany <= 8; howMany++) {
            PouredTopmost x = new PouredTopmost();
            Check.due("letters", x.letters(Check.word("k9:12345".substring(0, howMany))), howMany);
            Check.due("count", x.count(3), howMany);
        }
    }

    private static void lettersLowestFirst() {
        Check.says("told by their codes in the bytes of w, the lowest byte first");
        PouredTopmost x = new PouredTopmost();
        x.letters(0x3837363534333231L);
        x.letters(0x7E01L);
        Check.due("1 to 8, then 1 and 126", x.digest(), Check.hash(0, 1, 0, 1,
            '1', '2', '3', '4', '5', '6', '7', '8', 1, 126, 0, 0, 0, 10, 0, 0));
    }

    private static void lettersUntilZero() {
        Check.says("until a byte that is 0");
        PouredTopmost x = Check.written("12");
        Check.due("none", x.letters(0), 2);
        Check.due("one", x.letters(0x33L), 3);
        Check.due("seven", x.letters(0x0031313131313131L), 10);
    }

    private static void lettersHowMany() {
        Check.says("how many THE PAGE has");
        PouredTopmost x = new PouredTopmost();
        Check.due("none", x.letters(0), 0);
        Check.due("one", x.letters(Check.word("2")), 1);
        Check.due("eight more", x.letters(Check.word(":12/34/5")), 9);
        Check.due("none more", x.letters(0), 9);
    }

    private static void lettersAboveGreatestCode() {
        Check.says("OUTSIDE: a byte above 126");
        for (int place = 0; place < 8; place++) {
            PouredTopmost x = Check.written("3/4");
            long ahead = Check.word("1111111".substring(0, place));
            for (long code : new long[] {127, 128, 200, 255}) {
                long w = ahead | code << 8 * place;
                Check.refused(x, code + " at " + place, () -> x.letters(w), Check.OUTSIDE);
            }
            Check.due("126 at " + place, x.letters(ahead | 126L << 8 * place), 4 + place);
        }
        PouredTopmost all = Check.written("3/4");
        Check.refused(all, "all bytes 255", () -> all.letters(-1L), Check.OUTSIDE);
        Check.refused(all, "the least long", () -> all.letters(Long.MIN_VALUE), Check.OUTSIDE);
        Check.refused(all, "the greatest long", () -> all.letters(Long.MAX_VALUE), Check.OUTSIDE);
        Check.due("all bytes 126", all.letters(0x7E7E7E7E7E7E7E7EL), 11);
    }

    private static void lettersBehindZero() {
        Check.says("or one behind a 0 that is not 0");
        for (int zero = 0; zero < 7; zero++) {
            PouredTopmost x = Check.written("3/4");
            long ahead = Check.word("1111111".substring(0, zero));
            for (int place = zero + 1; place < 8; place++) {
                long least = ahead | 1L << 8 * place;
                long letter = ahead | 0x31L << 8 * place;
                Check.refused(x, "0 at " + zero + ", 1 at " + place, () -> x.letters(least), Check.OUTSIDE);
                Check.refused(x, "0 at " + zero + ", a letter", () -> x.letters(letter), Check.OUTSIDE);
            }
            Check.due("all behind it are 0", x.letters(ahead), 3 + zero);
        }
    }

    private static void lettersFull() {
        Check.says("FULL: above 70");
        PouredTopmost x = Check.written("1".repeat(62));
        Check.due("62 and 8", x.letters(Check.word("22222222")), 70);
        Check.due("none more", x.letters(0), 70);
        Check.refused(x, "one more", () -> x.letters(Check.word("3")), Check.FULL);
        Check.refused(x, "eight more", () -> x.letters(Check.word("33333333")), Check.FULL);
        PouredTopmost y = Check.written("1".repeat(63));
        Check.refused(y, "63 and 8", () -> y.letters(Check.word("22222222")), Check.FULL);
        Check.due("63 and 7", y.letters(Check.word("2222222")), 70);
        Check.due("blank", y.blank(), 70);
        Check.due("there is room again", Check.write(y, "1".repeat(70)), 70);
        Check.refused(y, "and no more than before", () -> y.letters(1), Check.FULL);
    }

    private static void lettersFirstRefusal() {
        Check.says("OUTSIDE: a byte above 126, or one behind a 0 that is not 0; FULL: above 70");
        PouredTopmost x = Check.written("1".repeat(70));
        Check.refused(x, "127", () -> x.letters(127), Check.OUTSIDE);
        Check.refused(x, "behind a 0", () -> x.letters(0x3100L), Check.OUTSIDE);
        Check.refused(x, "126", () -> x.letters(126), Check.FULL);
    }

    // ---- promise 3

    private static void blankHowMany() {
        Check.says("THE PAGE is empty: how many letters it had.");
        PouredTopmost x = new PouredTopmost();
        Check.due("none", x.blank(), 0);
        Check.write(x, "2x");
        Check.due("two", x.blank(), 2);
        Check.due("empty", x.count(3), 0);
        Check.due("again", x.blank(), 0);
        Check.due("as if new", x.digest(), new PouredTopmost().digest());
        Check.write(x, "1".repeat(70));
        Check.due("seventy", x.blank(), 70);
        Check.due("from its beginning", Check.write(x, "5"), 1);
        Check.due("tower", x.tower(), 1);
        Check.due("holds", x.about(0, 1), 5);
    }

    private static void blankLeavesTheRest() {
        Check.says("THE PAGE is empty: how many letters it had.");
        PouredTopmost x = Check.standing("2:1/1");
        x.pour(0, 4);
        x.image();
        long before = x.digest();
        Check.write(x, "77");
        x.blank();
        Check.due("the tower and what is in it stay", x.digest(), before);
        Check.due("the image stays", x.restore(), 4);
    }

    // ---- promise 4

    private static void fault(String text, int place) {
        PouredTopmost x = Check.written(text);
        Check.due("fault of " + text, x.fault(), place);
        Check.due("letters stay", x.count(3), text.length());
    }

    /** Of all letters that there are just these may stand behind what is ahead. */
    private static void behind(String ahead, String may) {
        for (int code = 1; code <= 126; code++) {
            boolean fits = may.indexOf(code) >= 0;
            fault(ahead + (char) code, fits ? ahead.length() + 1 : ahead.length());
        }
    }

    private static void faultOfEachPlace() {
        Check.says("the first letter of THE PAGE that no TOWER has there, behind those ahead of it");
        for (String ahead : new String[] {"", "1/", "c9:1-/"}) {
            behind(ahead, GLASS_BEGINS);
            for (char letter : "ckls".toCharArray()) {
                behind(ahead + letter, "123456789");
            }
            behind(ahead + "1", ":/");
            behind(ahead + "s9", ":/");
            behind(ahead + "9:---", "/");
        }
        behind("1:", "12345678-");
        behind("1:1", "12345678-/");
        behind("1:18", "12345678-/");
        behind("1:188", "/");
    }

    private static void faultOfEachGlass() {
        Check.says("greater than this one's, 8 at most");
        for (int glass = 0; glass < 9; glass++) {
            String greater = "12345678".substring(Math.min(glass, 8));
            String next = glass < 8 ? "/" : "";
            behind(ones(glass) + "1", ":" + next);
            behind(ones(glass) + "1:", greater + "-");
            behind(ones(glass) + "1:-", greater + "-" + next);
            behind(ones(glass) + "l1:--", greater + "-" + next);
            behind(ones(glass) + "1:---", next);
        }
        fault(LONGEST + "-", LONGEST.length());
        fault(LONGEST + "/", LONGEST.length());
    }

    private static void faultOfTheFirst() {
        Check.says("The place (from 0) of the first letter of THE PAGE that no TOWER has there");
        fault("x", 0);
        fault("xx", 0);
        fault("x1:", 0);
        fault("1xx", 1);
        fault("1:0/0", 2);
        fault("1/1:1:", 4);
        fault("1".repeat(70), 1);
        fault(LONGEST + "12345678", 62);
        PouredTopmost x = Check.written("1/x");
        Check.refused(x, "it changes nothing", x::fault, 2);
        Check.due("letters behind it may come", Check.write(x, "1"), 4);
        Check.due("it stays where it is", x.fault(), 2);
    }

    private static void faultOfNone() {
        Check.says("how many letters it has, if there is none");
        String[] begun = {"", "1", "9", "c", "s", "c9", "1:", "1:-", "1:--", "1:---", "1/", "1/l",
            "3:12/l3:34/c2:4-/s1:4/4", LONGEST};
        for (String text : begun) {
            fault(text, text.length());
        }
        PouredTopmost x = Check.standing("1:1/2");
        Check.due("the page alone is looked at", x.fault(), 0);
    }

    private static void faultOfGlassesThatAreNotThere() {
        Check.says("whether a GLASS is there is not looked at but for its number");
        fault("1:1", 3);
        fault("1:8", 3);
        fault("1:888", 5);
        fault("1/1:8", 5);
        fault("1:8/1", 5);
        fault(ones(7) + "1:8", 17);
        fault("1:9", 2);
        fault("1:0", 2);
    }

    // ---- promise 5

    private static void towerHowMany() {
        Check.says("THE PAGE is read as THE TOWER (another one is gone; all is empty): how many GLASSES");
        PouredTopmost x = new PouredTopmost();
        for (int howMany = 9; howMany >= 1; howMany--) {
            Check.write(x, ones(howMany - 1) + "1");
            Check.due("tower", x.tower(), howMany);
            Check.due("glasses", x.count(0), howMany);
            Check.due("read so often", x.count(4), 10 - howMany);
            Check.due("the last one", x.about(howMany - 1, 1), 1);
            Check.due("none behind it", x.about(howMany, 1), Check.UNKNOWN);
        }
    }

    private static void towerEmptiesThePage() {
        Check.says("THE PAGE is empty then");
        PouredTopmost x = Check.written("2:1/3");
        Check.due("tower", x.tower(), 2);
        Check.due("letters", x.count(3), 0);
        Check.due("blank", x.blank(), 0);
        Check.refused(x, "an empty page is no tower", x::tower, Check.STATE);
        Check.due("letters come from its beginning", Check.write(x, "4"), 1);
        Check.due("another tower", x.tower(), 1);
    }

    private static void towerThatIsNone() {
        Check.says("STATE: it is none");
        for (String text : new String[] {"", "c", "1:", "1/", "1/c", "1/1:", "x", "1x", "1:-x", "1/1x"}) {
            isNone(text);
        }
        PouredTopmost x = Check.written("1:");
        Check.refused(x, "without another one", x::tower, Check.STATE);
        Check.due("none was read", x.count(4), 0);
        Check.write(x, "-");
        Check.due("what was missing came", x.tower(), 1);
    }

    private static void towerOfGlassesThatAreNotThere() {
        Check.says("STATE: it is none (a GLASS that is not there, too)");
        for (String text : new String[] {"1:1", "1:2/1", "1:12/1", "1:1-2/1", "1/1:2", "1:-1",
            "1:8/1/1/1/1/1/1/1"}) {
            isNone(text);
        }
        PouredTopmost x = Check.written("1:2/1");
        x.tower();
        Check.write(x, "/1");
        Check.due("it is there now", x.tower(), 3);
    }

    private static void anotherIsGone() {
        Check.says("another one is gone");
        PouredTopmost x = Check.standing("c2:1/l3:22-/l1:-");
        x.turn(1, 4);
        Check.write(x, "5:1/4");
        Check.due("another", x.tower(), 2);
        int[][] due = {{0, 5, 5, 1, 1, -1, -1, 0, 0}, {0, 4, 4, 0, -1, -1, -1, 0, 0}};
        for (int glass = 0; glass < due.length; glass++) {
            for (int what = 0; what <= 8; what++) {
                Check.due("about " + glass + " " + what, x.about(glass, what), due[glass][what]);
            }
        }
        Check.due("the third is gone", x.about(2, 0), Check.UNKNOWN);
        Check.due("into the third", x.pour(2, 1), Check.UNKNOWN);
    }

    private static void allIsEmpty() {
        Check.says("another one is gone; all is empty");
        for (String text : new String[] {"5:1/4", "2:1/3/2", "9/9/9/9"}) {
            PouredTopmost x = Check.standing("2:1/3/2");
            x.pour(0, 9);
            x.drink(1);
            x.pour(2, 3);
            Check.write(x, text);
            int glasses = x.tower();
            Check.due("poured", x.count(1), 0);
            Check.due("towers", x.count(4), 2);
            for (int glass = 0; glass < glasses; glass++) {
                Check.inGlass(x, glass, 0, 1);
                Check.drunkFrom(x, glass, 0, 1);
            }
            Check.ofAll(x, 0, 0, 1);
            Check.ofAll(x, 1, 0, 1);
        }
    }

    // ---- promise 6

    private static void aboutKindHoldsTakes() {
        Check.says("what = 0 KIND, 1 HOLDS, 2 TAKES");
        PouredTopmost x = Check.standing("7/c7/k7/l7/s7/c1/1/9/c9");
        int[] kinds = {0, 1, 2, 3, 4, 1, 0, 0, 1};
        int[] holds = {7, 7, 7, 7, 7, 1, 1, 9, 9};
        int[] takes = {7, 6, 0, 7, 0, 0, 1, 9, 8};
        for (int glass = 0; glass < 9; glass++) {
            Check.due("kind of " + glass, x.about(glass, 0), kinds[glass]);
            Check.due("holds of " + glass, x.about(glass, 1), holds[glass]);
            Check.due("takes of " + glass, x.about(glass, 2), takes[glass]);
        }
    }

    private static void aboutShares() {
        Check.says("3 how many shares, 4 to 6 the so-manieth (9: the cloth; NONE)");
        PouredTopmost x = Check.standing("1:1-2/1:-/1:33/1/l1:--/c1:8--/1/1:888/1:---");
        int[][] due = {{3, 1, 9, 2}, {1, 9, -1, -1}, {2, 3, 3, -1}, {0, -1, -1, -1}, {2, 9, 9, -1},
            {3, 8, 9, 9}, {0, -1, -1, -1}, {3, 8, 8, 8}, {3, 9, 9, 9}};
        for (int glass = 0; glass < due.length; glass++) {
            for (int i = 0; i < 4; i++) {
                Check.due("about " + glass + " " + (3 + i), x.about(glass, 3 + i), due[glass][i]);
            }
        }
    }

    private static void aboutTurn() {
        Check.says("7 TURN");
        PouredTopmost x = Check.standing("2:1/1/s1");
        Check.due("none at first", x.about(1, 7), 0);
        x.turn(1, 9);
        Check.due("the greatest", x.about(1, 7), 9);
        Check.due("another one's", x.about(0, 7), 0);
        Check.due("a stuck one's", x.about(2, 7), 0);
    }

    private static void aboutFull() {
        Check.says("8 whether it is FULL (1, 0)");
        PouredTopmost x = Check.standing("2:1/1:2-/2");
        x.pour(0, 1);
        Check.due("one of two", x.about(0, 8), 0);
        x.pour(0, 1);
        Check.due("two of two", x.about(0, 8), 1);
        Check.due("nothing below", x.about(1, 8), 0);
        x.pour(0, 4);
        Check.due("run over, and full", x.about(1, 8), 1);
        Check.due("three halves of two", x.about(2, 8), 0);
        x.pour(0, 1);
        Check.due("two of two", x.about(2, 8), 1);
        x.drink(0);
        Check.due("emptied", x.about(0, 8), 0);
        Check.says("What takes nothing is FULL.");
        PouredTopmost nothing = Check.standing("k3/s3/c1/c2");
        Check.due("corked", nothing.about(0, 8), 1);
        Check.due("stuck", nothing.about(1, 8), 1);
        Check.due("chipped, of one", nothing.about(2, 8), 1);
        Check.due("chipped, of two", nothing.about(3, 8), 0);
    }

    private static void aboutRefused() {
        Check.says("UNKNOWN; OUTSIDE.");
        PouredTopmost x = Check.standing("1:-/2/c3");
        for (int glass : new int[] {Integer.MIN_VALUE, -1, 3, 9, Integer.MAX_VALUE}) {
            Check.refused(x, "glass " + glass, () -> x.about(glass, 0), Check.UNKNOWN);
            Check.refused(x, "glass goes first", () -> x.about(glass, 9), Check.UNKNOWN);
        }
        for (int what : new int[] {Integer.MIN_VALUE, -1, 9, Integer.MAX_VALUE}) {
            Check.refused(x, "what " + what, () -> x.about(0, what), Check.OUTSIDE);
            Check.refused(x, "what " + what, () -> x.about(2, what), Check.OUTSIDE);
        }
        PouredTopmost nine = Check.standing(LONGEST);
        Check.refused(nine, "the cloth is no glass", () -> nine.about(9, 0), Check.UNKNOWN);
    }

    // ---- promise 7

    private static void asEachKind() {
        Check.says("All are GLASSES; a STUCK is CORKED, too.");
        PouredTopmost x = Check.standing("1/c1/k1/l1/s1");
        for (int glass = 0; glass < 5; glass++) {
            for (int kind = 0; kind < 5; kind++) {
                boolean is = kind == 0 || kind == glass || (glass == 4 && kind == 2);
                Check.due("as " + glass + " " + kind, x.as(glass, kind), is ? glass : Check.NONE);
            }
        }
        Check.due("what is corked is not stuck", x.as(2, 4), Check.NONE);
        Check.due("what takes nothing is not corked", x.as(1, 2), Check.NONE);
        Check.due("the last of nine", Check.standing(LONGEST).as(8, 1), 8);
    }

    private static void asRefused() {
        Check.says("A GLASS taken as a KIND: its number; NONE: it is none such (the cast fails). "
            + "UNKNOWN; OUTSIDE.");
        PouredTopmost x = Check.standing("1/c1/k1/l1/s1");
        for (int glass : new int[] {Integer.MIN_VALUE, -1, 5, 9, Integer.MAX_VALUE}) {
            Check.refused(x, "glass " + glass, () -> x.as(glass, 0), Check.UNKNOWN);
            Check.refused(x, "glass goes first", () -> x.as(glass, 5), Check.UNKNOWN);
        }
        for (int kind : new int[] {Integer.MIN_VALUE, -1, 5, Integer.MAX_VALUE}) {
            Check.refused(x, "kind " + kind, () -> x.as(0, kind), Check.OUTSIDE);
            Check.refused(x, "kind " + kind, () -> x.as(4, kind), Check.OUTSIDE);
        }
    }
}

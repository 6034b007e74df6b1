/** Promises 8 to 13: pouring. */
public final class PouringTest {
    public static void main(String[] args) {
        pourRunsOver();
        pourIntoAnother();
        pourByKinds();
        pourToTheCloth();
        pourRefused();
        finestShares();
        inTellsLowestTerms();
        allTogether();
        drinking();
        drunkSoFar();
        clearing();
        Check.end();
    }

    /** Promise 8: what is more than a glass takes runs over, glass by glass. */
    private static void pourRunsOver() {
        PouredTopmost x = Check.standing("2:12/1:3/1:3/9");
        Check.due("poured", x.pour(0, 1), 1);
        Check.inGlass(x, 0, 1, 1);
        Check.due("poured", x.pour(0, 2), 3);
        Check.inGlass(x, 0, 2, 1);
        Check.inGlass(x, 1, 1, 2);
        Check.inGlass(x, 2, 1, 2);
        Check.due("poured", x.pour(0, 4), 7);
        Check.inGlass(x, 1, 1, 1);
        Check.inGlass(x, 2, 1, 1);
        Check.inGlass(x, 3, 3, 1);
        Check.ofAll(x, 0, 0, 1);
        Check.due("poured", x.pour(0, 8), 15);
        Check.inGlass(x, 3, 9, 1);
        Check.ofAll(x, 0, 2, 1);
    }

    private static void pourIntoAnother() {
        PouredTopmost x = Check.standing("2:12/1:2/3");
        Check.due("poured", x.pour(1, 3), 3);
        Check.inGlass(x, 0, 0, 1);
        Check.inGlass(x, 1, 1, 1);
        Check.inGlass(x, 2, 2, 1);
        Check.due("poured", x.pour(2, 99), 102);
        Check.inGlass(x, 1, 1, 1);
        Check.ofAll(x, 0, 98, 1);
    }

    private static void pourByKinds() {
        PouredTopmost leaning = Check.standing("l1:123/9/9/9");
        leaning.pour(0, 6);
        Check.inGlass(leaning, 0, 1, 1);
        Check.inGlass(leaning, 1, 5, 2);
        Check.inGlass(leaning, 2, 5, 4);
        Check.inGlass(leaning, 3, 5, 4);
        PouredTopmost two = Check.standing("l1:2-/9/9");
        two.pour(0, 6);
        Check.inGlass(two, 1, 0, 1);
        Check.inGlass(two, 2, 10, 3);
        Check.ofAll(two, 0, 5, 3);
        PouredTopmost one = Check.standing("l1:1/9");
        one.pour(0, 6);
        Check.inGlass(one, 1, 5, 1);
        PouredTopmost none = Check.standing("l1");
        none.pour(0, 6);
        Check.ofAll(none, 0, 5, 1);
        PouredTopmost others = Check.standing("c3:1/k9:2/s9:3/5");
        others.pour(0, 4);
        Check.inGlass(others, 0, 2, 1);
        Check.inGlass(others, 1, 0, 1);
        Check.inGlass(others, 2, 0, 1);
        Check.inGlass(others, 3, 2, 1);
        Check.due("into a stuck one", others.pour(2, 1), 5);
        Check.inGlass(others, 3, 3, 1);
    }

    /** The cloth may be a share, and one glass may come twice. */
    private static void pourToTheCloth() {
        PouredTopmost x = Check.standing("1:11-/9");
        x.pour(0, 4);
        Check.inGlass(x, 1, 2, 1);
        Check.ofAll(x, 0, 1, 1);
        PouredTopmost y = Check.standing("1:--1/9");
        y.pour(0, 4);
        Check.inGlass(y, 1, 1, 1);
        Check.ofAll(y, 0, 2, 1);
        PouredTopmost z = Check.standing("l1:1-1/9");
        z.pour(0, 5);
        Check.inGlass(z, 1, 3, 1);
        Check.ofAll(z, 0, 1, 1);
    }

    private static void pourRefused() {
        PouredTopmost x = Check.standing("5:1/5");
        Check.refused(x, "glass", () -> x.pour(2, 1), Check.UNKNOWN);
        Check.refused(x, "glass", () -> x.pour(-1, 0), Check.UNKNOWN);
        Check.refused(x, "measures", () -> x.pour(0, 0), Check.OUTSIDE);
        Check.refused(x, "measures", () -> x.pour(1, 100), Check.OUTSIDE);
        Check.refused(x, "measures", () -> x.pour(1, Integer.MAX_VALUE), Check.OUTSIDE);
        for (int i = 1; i <= 100; i++) {
            Check.due("poured", x.pour(i % 2, 99), 99 * i);
        }
        Check.due("9900 and 98", x.pour(0, 98), 9998);
        Check.refused(x, "10000", () -> x.pour(0, 2), Check.STATE);
        Check.refused(x, "glass goes first", () -> x.pour(2, 2), Check.UNKNOWN);
        Check.refused(x, "measures go first", () -> x.pour(0, 100), Check.OUTSIDE);
        Check.due("9999", x.pour(0, 1), 9999);
        Check.refused(x, "10000", () -> x.pour(1, 1), Check.STATE);
        Check.due("cleared", x.clear(), 9999);
        Check.due("from 0 again", x.pour(1, 1), 1);
    }

    /** Nine glasses that part by three and by four: the finest fractions there are. */
    private static void finestShares() {
        PouredTopmost x = Check.standing("k1:1--/k1:2--/k1:3--/k1:4--/k1:5--/k1:6--/k1:7--/k1:8--/9");
        x.pour(0, 2);
        Check.inGlass(x, 8, 2, 6561);
        Check.ofAll(x, 0, 13120, 6561);
        PouredTopmost y = Check.standing("l1:--1/l1:-2-/l1:-3-/l1:-4-/l1:-5-/l1:-6-/l1:-7-/l1:-8-/9");
        for (int i = 0; i < 9; i++) {
            y.pour(0, 99);
        }
        // 890 runs over of glass 0, a fourth of that comes to glass 1, and so on.
        Check.inGlass(y, 1, 1, 1);
        Check.inGlass(y, 5, 275, 512);
        Check.inGlass(y, 6, 0, 1);
    }

    /** Promise 9. */
    private static void inTellsLowestTerms() {
        PouredTopmost x = Check.standing("1:12-/9:3/9/9");
        Check.inGlass(x, 1, 0, 1);
        x.pour(0, 3);
        Check.inGlass(x, 1, 2, 3);
        x.pour(0, 1);
        Check.inGlass(x, 1, 1, 1);
        x.pour(0, 1);
        Check.inGlass(x, 1, 4, 3);
        Check.refused(x, "glass", () -> x.in(4, 0), Check.UNKNOWN);
        Check.refused(x, "glass", () -> x.in(-1, 2), Check.UNKNOWN);
        Check.refused(x, "part", () -> x.in(0, 2), Check.OUTSIDE);
        Check.refused(x, "part", () -> x.in(0, -1), Check.OUTSIDE);
    }

    /** Promise 10. */
    private static void allTogether() {
        PouredTopmost x = Check.standing("1:12-/1/c1");
        x.pour(0, 3);
        Check.ofAll(x, 0, 4, 3);
        Check.ofAll(x, 1, 5, 3);
        x.drink(0);
        Check.ofAll(x, 0, 4, 3);
        Check.ofAll(x, 1, 2, 3);
        Check.refused(x, "what", () -> x.all(2, 0), Check.OUTSIDE);
        Check.refused(x, "what", () -> x.all(-1, 0), Check.OUTSIDE);
        Check.refused(x, "part", () -> x.all(0, 2), Check.OUTSIDE);
        Check.refused(x, "part", () -> x.all(1, -1), Check.OUTSIDE);
    }

    /** Promise 11. */
    private static void drinking() {
        PouredTopmost x = Check.standing("2:12/3/s3:3/k3/c2");
        Check.refused(x, "nothing there", () -> x.drink(0), 0);
        x.pour(0, 3);
        Check.due("drink", x.drink(1), 1);
        Check.inGlass(x, 1, 0, 1);
        Check.inGlass(x, 0, 2, 1);
        Check.due("nothing more", x.drink(1), 0);
        Check.refused(x, "stuck", () -> x.drink(2), Check.STATE);
        Check.due("corked", x.drink(3), 0);
        Check.refused(x, "glass", () -> x.drink(5), Check.UNKNOWN);
        Check.refused(x, "glass", () -> x.drink(-1), Check.UNKNOWN);
        Check.due("poured stays", x.count(1), 3);
    }

    /** Promise 12. */
    private static void drunkSoFar() {
        PouredTopmost x = Check.standing("1:12-/2/s2");
        Check.drunkFrom(x, 1, 0, 1);
        x.pour(0, 2);
        x.drink(1);
        Check.drunkFrom(x, 1, 1, 3);
        x.drink(1);
        Check.drunkFrom(x, 1, 1, 3);
        x.pour(0, 1);
        x.drink(1);
        Check.drunkFrom(x, 1, 2, 3);
        Check.drunkFrom(x, 0, 0, 1);
        Check.drunkFrom(x, 2, 0, 1);
        Check.refused(x, "glass", () -> x.drunk(3, 0), Check.UNKNOWN);
        Check.refused(x, "glass", () -> x.drunk(-1, 2), Check.UNKNOWN);
        Check.refused(x, "part", () -> x.drunk(0, 2), Check.OUTSIDE);
        Check.refused(x, "part", () -> x.drunk(0, -1), Check.OUTSIDE);
    }

    /** Promise 13: the turns stay, as does all that it does not name. */
    private static void clearing() {
        PouredTopmost x = Check.standing("1:1-/2");
        long fresh = x.digest();
        x.pour(0, 7);
        x.drink(0);
        Check.due("clear", x.clear(), 7);
        Check.due("all is as at first", x.digest(), fresh);
        Check.due("again", x.clear(), 0);
        Check.inGlass(x, 1, 0, 1);
        Check.drunkFrom(x, 0, 0, 1);
        Check.ofAll(x, 0, 0, 1);
        x.turn(1, 3);
        Check.write(x, "4");
        x.clear();
        Check.due("turn", x.about(1, 7), 3);
        Check.due("page", x.count(3), 1);
        Check.due("tower", x.count(0), 2);
    }
}

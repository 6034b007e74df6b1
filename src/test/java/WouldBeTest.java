/** Promises 14 to 17: what would be. */
public final class WouldBeTest {
    public static void main(String[] args) {
        needOfOne();
        needGreatest();
        needFromNow();
        needOfAll();
        changeOfTwo();
        changeFromNow();
        changeOfLikeOnes();
        changeThirtyTimes();
        costsOfOne();
        costsOfKinds();
        Check.end();
    }

    /** Promise 14. */
    private static void needOfOne() {
        PouredTopmost x = Check.standing("2:12/3:3/k1:3/4/c1");
        Check.due("itself", x.need(0, 0), 2);
        Check.due("next", x.need(1, 0), 8);
        Check.due("3 1/2 by 2, a half by 1", x.need(3, 0), 9);
        Check.due("takes nothing", x.need(2, 0), 0);
        Check.due("takes nothing", x.need(4, 3), 0);
        Check.due("from another", x.need(3, 2), 4);
        Check.due("from another", x.need(3, 1), 7);
        Check.due("not from below", x.need(0, 1), Check.NONE);
        Check.due("not beside", x.need(1, 2), Check.NONE);
        Check.refused(x, "of", () -> x.need(5, 0), Check.UNKNOWN);
        Check.refused(x, "of", () -> x.need(-1, 0), Check.UNKNOWN);
        Check.refused(x, "from", () -> x.need(0, 5), Check.UNKNOWN);
        Check.refused(x, "from", () -> x.need(0, -1), Check.UNKNOWN);
        Check.refused(x, "it only would be", () -> x.need(0, 0), 2);
    }

    /** What comes down of each glass is a third, or less: 999 measures are not too many. */
    private static void needGreatest() {
        PouredTopmost x = Check.standing("3:1--/k1:2--/k1:3--/k1:4--/9");
        Check.due("3 and 729", x.need(4, 0), 732);
        PouredTopmost y = Check.standing("l9:--1/l9:--2/c6:3--/k1:4--/k1:5-/c2/8");
        Check.due("9, 36, 80 and 288", y.need(5, 0), 413);
        PouredTopmost z = Check.standing("9:1--/9:2--/2:3--/2:4--/2:5--/3");
        Check.due("9, 27, 18, 54, 162 and 729", z.need(5, 0), 999);
        PouredTopmost more = Check.standing("1:1--/9:2--/9:3--/9:4--/8");
        Check.due("1, 27, 81, 243 and 648", more.need(4, 0), Check.NONE);
        more.pour(0, 1);
        Check.due("one less", more.need(4, 0), 999);
    }

    private static void needFromNow() {
        PouredTopmost x = Check.standing("3:1-/2");
        x.pour(0, 4);
        Check.due("a half is there", x.need(1, 0), 3);
        Check.due("from itself", x.need(1, 1), 2);
        Check.due("full", x.need(0, 0), 0);
        x.drink(0);
        Check.due("emptied", x.need(0, 0), 3);
        Check.due("emptied above", x.need(1, 0), 6);
    }

    /** Promise 15. */
    private static void needOfAll() {
        PouredTopmost x = Check.standing("2:12/3:3/1:3/4");
        Check.due("none", x.needAll(0), 0);
        Check.due("0", x.needAll(1), 2);
        Check.due("1", x.needAll(2), 8);
        Check.due("0 and 2", x.needAll(5), 4);
        Check.due("all", x.needAll(15), 10);
        x.pour(0, 3);
        Check.due("all now", x.needAll(15), 7);
        Check.refused(x, "set", () -> x.needAll(16), Check.OUTSIDE);
        Check.refused(x, "set", () -> x.needAll(-1), Check.OUTSIDE);
        Check.refused(x, "set", () -> x.needAll(17), Check.OUTSIDE);
        PouredTopmost apart = Check.standing("1/1");
        Check.due("none comes there", apart.needAll(3), Check.NONE);
        apart.pour(1, 1);
        Check.due("it is full", apart.needAll(3), 1);
        PouredTopmost nine = Check.standing("1/k1/k1/k1/k1/k1/k1/k1/c1");
        Check.due("all nine", nine.needAll(511), 1);
        Check.due("a tenth", nine.needAll(512), Check.OUTSIDE);
        Check.due("no tower goes first", new PouredTopmost().needAll(-1), Check.STATE);
    }

    private static void changed(PouredTopmost x, int measures, int lesser, int greater) {
        long before = x.digest() - x.count(5);
        Check.due("lesser", x.change(measures, 0), lesser);
        Check.due("greater", x.change(measures, 1), greater);
        Check.due("nothing is changed but the count", x.digest() - x.count(5), before);
    }

    /** Promise 16: holds and kind go to the other place, the shares stay. */
    private static void changeOfTwo() {
        // 9 poured: 1 stays, 8 are spilt but for a half that glass 1 takes; as 9/1 none is.
        changed(Check.standing("1:1-/9"), 9, 0, 1);
        // From 19 on all are full either way.
        changed(Check.standing("1:1-/9"), 19, Check.NONE, Check.NONE);
        changed(Check.standing("9:1-/1"), 9, Check.NONE, Check.NONE);
        changed(Check.standing("1"), 9, Check.NONE, Check.NONE);
        // A leaning glass at the top would send two thirds to glass 1 instead of a half.
        changed(Check.standing("3:1-/9/l3"), 9, 0, 1);
        changed(Check.standing("9:1-/9/l9"), 18, 0, 2);
        // A cork goes with its glass.
        changed(Check.standing("k9:1-/5"), 4, 0, 1);
        changed(Check.standing("s9/c9/5"), 9, 0, 1);
        PouredTopmost x = Check.standing("1/9");
        Check.refused(x, "measures", () -> x.change(0, 0), Check.OUTSIDE);
        Check.refused(x, "measures", () -> x.change(100, 0), Check.OUTSIDE);
        Check.refused(x, "what", () -> x.change(1, 2), Check.OUTSIDE);
        Check.refused(x, "what", () -> x.change(1, -1), Check.OUTSIDE);
        Check.due("the least", x.change(1, 0), Check.NONE);
        Check.due("the greatest", x.change(99, 1), 1);
        Check.due("no tower goes first", new PouredTopmost().change(0, 0), Check.STATE);
    }

    /** What is in a glass that takes less then runs over first. */
    private static void changeFromNow() {
        PouredTopmost x = Check.standing("9/2/5");
        x.pour(0, 9);
        // All of 0 that is more than the other takes would be spilt as well.
        changed(x, 1, Check.NONE, Check.NONE);
        PouredTopmost y = Check.standing("2:2/4/3");
        y.pour(1, 4);
        y.pour(0, 5);
        // 0 with 1: 2 of glass 1 are spilt, glass 0 takes 2 more of 3: 1 and 2 are 3, as now.
        changed(y, 3, Check.NONE, Check.NONE);
        PouredTopmost z = Check.standing("2:2/4/3");
        z.pour(1, 3);
        z.pour(0, 5);
        // Now 1 of glass 1 and 1 of 3 are spilt: less than 3 without.
        changed(z, 3, 0, 1);
        PouredTopmost w = Check.standing("2:1/6:2-/4");
        w.pour(1, 6);
        // 2 are spilt without, and with 0 for 1; 3 with 1 for 2; 1 with 0 for 2.
        changed(w, 6, 0, 2);
    }

    private static void changeOfLikeOnes() {
        changed(Check.standing("1/3/3/2"), 3, 0, 1);
        changed(Check.standing("1:3/2/2/1"), 3, 0, 1);
        // The least goes ahead of the first.
        changed(Check.standing("1/2/3/4"), 9, 0, 3);
        changed(Check.standing("9:1/1:2/1/4/4"), 15, 1, 3);
    }

    private static void changeThirtyTimes() {
        PouredTopmost x = Check.standing("1/9");
        for (int i = 0; i < 30; i++) {
            Check.due("done", x.count(5), i);
            Check.due("change " + i, x.change(i + 1, i % 2), i == 0 ? Check.NONE : i % 2);
        }
        Check.refused(x, "31st", () -> x.change(9, 0), Check.STATE);
        Check.refused(x, "outside goes first", () -> x.change(0, 0), Check.OUTSIDE);
        Check.refused(x, "outside goes first", () -> x.change(1, 2), Check.OUTSIDE);
        Check.due("done", x.count(5), 30);
        Check.write(x, "1/2");
        x.tower();
        Check.due("another tower does not help", x.change(9, 0), Check.STATE);
    }

    private static void costs(PouredTopmost x, int glass, int measures, long above, long below) {
        Check.fraction("costs(" + glass + ", " + measures + ")", x.costs(glass, measures, 0),
            x.costs(glass, measures, 1), above, below);
    }

    /** Promise 17. */
    private static void costsOfOne() {
        PouredTopmost x = Check.standing("2:12-/1:2/3");
        costs(x, 0, 2, 4, 3);
        costs(x, 0, 1, 2, 3);
        costs(x, 1, 2, 0, 1);
        costs(x, 1, 3, 1, 3);
        costs(x, 1, 4, 2, 3);
        costs(x, 1, 99, 0, 1);
        costs(x, 2, 99, 0, 1);
        x.pour(0, 9);
        x.pour(2, 9);
        costs(x, 0, 2, 4, 3);
        Check.refused(x, "glass", () -> x.costs(3, 1, 0), Check.UNKNOWN);
        Check.refused(x, "glass", () -> x.costs(-1, 0, 2), Check.UNKNOWN);
        Check.refused(x, "measures", () -> x.costs(0, 0, 0), Check.OUTSIDE);
        Check.refused(x, "measures", () -> x.costs(0, 100, 0), Check.OUTSIDE);
        Check.refused(x, "part", () -> x.costs(0, 1, 2), Check.OUTSIDE);
        Check.refused(x, "part", () -> x.costs(0, 1, -1), Check.OUTSIDE);
        Check.refused(x, "it only would be", () -> x.costs(0, 2, 0), 4);
    }

    /** A leaning glass that takes nothing leans as before. */
    private static void costsOfKinds() {
        PouredTopmost x = Check.standing("l3:12/1/9");
        costs(x, 0, 3, 2, 1);
        PouredTopmost y = Check.standing("l3:1-/9");
        costs(y, 0, 3, 2, 1);
        costs(y, 0, 6, 2, 1);
        PouredTopmost z = Check.standing("k3:1/c4:2/s3/3");
        costs(z, 0, 9, 0, 1);
        costs(z, 1, 9, 0, 1);
        costs(z, 2, 9, 0, 1);
        costs(z, 3, 9, 0, 1);
        costs(Check.standing("c4:1/2"), 0, 3, 2, 1);
    }
}

/** Promises 18 to 22: evenings. */
public final class EveningsTest {
    public static void main(String[] args) {
        turns();
        eveningByHours();
        eveningOfTurns();
        eveningRefused();
        chipsOfOne();
        chipsOfKinds();
        alikeOfTwo();
        alikeFromEmpty();
        alikeRefused();
        pouringsBySeed();
        pouringsFromNow();
        pouringsRefused();
        Check.end();
    }

    /** Promise 18. */
    private static void turns() {
        PouredTopmost x = Check.standing("1/s1/k1");
        Check.due("was", x.turn(0, 9), 0);
        Check.due("was", x.turn(0, 1), 9);
        Check.due("was", x.turn(0, 0), 1);
        Check.due("is", x.about(0, 7), 0);
        Check.due("corked", x.turn(2, 3), 0);
        Check.due("stuck, never", x.turn(1, 0), 0);
        Check.refused(x, "stuck", () -> x.turn(1, 1), Check.STATE);
        Check.refused(x, "stuck, but v goes first", () -> x.turn(1, 10), Check.OUTSIDE);
        Check.refused(x, "v", () -> x.turn(0, 10), Check.OUTSIDE);
        Check.refused(x, "v", () -> x.turn(0, -1), Check.OUTSIDE);
        Check.refused(x, "glass", () -> x.turn(3, 0), Check.UNKNOWN);
        Check.refused(x, "glass", () -> x.turn(-1, 10), Check.UNKNOWN);
    }

    /** Promise 19: in each hour it is poured first and drunk then. */
    private static void eveningByHours() {
        PouredTopmost x = Check.standing("2:1/3");
        x.turn(0, 1);
        Check.due("an hour", x.evening(1, 3), 3);
        Check.inGlass(x, 0, 0, 1);
        Check.inGlass(x, 1, 1, 1);
        Check.drunkFrom(x, 0, 2, 1);
        Check.due("two more", x.evening(2, 9), 21);
        Check.drunkFrom(x, 0, 6, 1);
        Check.inGlass(x, 1, 3, 1);
        Check.ofAll(x, 0, 12, 1);
    }

    private static void eveningOfTurns() {
        PouredTopmost x = Check.standing("1:12/9/9/s9");
        x.turn(0, 3);
        x.turn(1, 2);
        x.turn(2, 9);
        // Hours 3, 6 empty glass 0: in 4, 7 nothing runs over, of the others a half each way.
        Check.due("eight hours", x.evening(8, 1), 8);
        Check.drunkFrom(x, 0, 2, 1);
        Check.drunkFrom(x, 1, 5, 2);
        Check.inGlass(x, 0, 1, 1);
        Check.inGlass(x, 1, 0, 1);
        Check.inGlass(x, 2, 5, 2);
        // Hours are counted anew in another evening.
        Check.due("one more", x.evening(1, 1), 9);
        Check.inGlass(x, 2, 3, 1);
        Check.inGlass(x, 1, 1, 2);
        Check.due("nine more", x.evening(9, 1), 18);
        Check.inGlass(x, 2, 0, 1);
        Check.drunkFrom(x, 2, 13, 2);
        x.turn(1, 0);
        x.evening(2, 1);
        Check.drunkFrom(x, 1, 6, 1);
    }

    private static void eveningRefused() {
        PouredTopmost x = Check.standing("1/1");
        Check.refused(x, "hours", () -> x.evening(0, 1), Check.OUTSIDE);
        Check.refused(x, "hours", () -> x.evening(25, 1), Check.OUTSIDE);
        Check.refused(x, "measures", () -> x.evening(1, 0), Check.OUTSIDE);
        Check.refused(x, "measures", () -> x.evening(1, 10), Check.OUTSIDE);
        Check.due("the most", x.evening(24, 9), 216);
        for (int i = 0; i < 98; i++) {
            x.pour(1, 99);
        }
        Check.due("ten more can be", x.pour(1, 71), 9989);
        Check.refused(x, "10001", () -> x.evening(4, 3), Check.STATE);
        Check.refused(x, "10000", () -> x.evening(11, 1), Check.STATE);
        Check.refused(x, "outside goes first", () -> x.evening(25, 1), Check.OUTSIDE);
        Check.due("9999", x.evening(2, 5), 9999);
        Check.refused(x, "10000", () -> x.evening(1, 1), Check.STATE);
        Check.due("no tower goes first", new PouredTopmost().evening(0, 0), Check.STATE);
    }

    /** Promise 20. */
    private static void chipsOfOne() {
        PouredTopmost x = Check.standing("3:12/2:3/2:3/9");
        Check.due("nothing poured, all empty", x.chips(0), 512 + 15);
        Check.due("more poured", x.chips(1), 0);
        x.pour(0, 2);
        Check.due("none need be; what is not full may be", x.chips(2), 512 + 15);
        x.pour(0, 1);
        Check.due("not 0", x.chips(3), 512 + 14);
        x.pour(0, 4);
        Check.due("not 1, 2", x.chips(7), 512 + 8);
        Check.due("one less", x.chips(6), 0);
        x.clear();
        // If 0 took 2, of 6 poured there would be 2 in each of 0, 1 and 2.
        x.pour(0, 2);
        x.pour(1, 2);
        x.pour(2, 2);
        Check.due("0 is chipped", x.chips(6), 1);
        Check.due("with 0 chipped no other number", x.chips(7), 0);
        Check.due("the greatest", x.chips(999), 0);
        Check.refused(x, "measures", () -> x.chips(1000), Check.OUTSIDE);
        Check.refused(x, "measures", () -> x.chips(-1), Check.OUTSIDE);
        Check.due("no tower goes first", new PouredTopmost().chips(-1), Check.STATE);
    }

    /** Only glasses of kind 0 are looked at, however little they hold. */
    private static void chipsOfKinds() {
        PouredTopmost x = Check.standing("c2/k2/l2/s2/2/1/1/1/1");
        Check.due("kind 0 alone", x.chips(0), 512 + 16 + 32 + 64 + 128 + 256);
        PouredTopmost y = Check.standing("1:1/2");
        y.pour(1, 2);
        Check.due("0 takes nothing then", y.chips(2), 1);
        Check.due("so 3 are spilt", y.chips(999), 1);
        y.pour(0, 1);
        Check.due("999", y.chips(999), 512);
    }

    /** Promise 21. */
    private static void alikeOfTwo() {
        PouredTopmost x = Check.standing("1:12/2:3/2:3/3");
        Check.due("1 and 2, from the first drop", x.alike(6), 2);
        Check.due("0 and 1", x.alike(3), 3);
        Check.due("0 to 2", x.alike(7), 3);
        Check.due("1 and 3", x.alike(10), 7);
        Check.due("1 to 3", x.alike(14), 7);
        Check.due("0 and 3", x.alike(9), 6);
        Check.due("all", x.alike(15), Check.NONE);
        PouredTopmost y = Check.standing("2:1/k2:2/2/c1");
        Check.due("full, both", y.alike(5), 4);
        Check.due("one has nothing", y.alike(3), Check.NONE);
        Check.due("one has nothing", y.alike(9), Check.NONE);
        Check.due("both have nothing", y.alike(10), Check.NONE);
        PouredTopmost one = Check.standing("k1:12/5/5");
        Check.due("the least", one.alike(6), 1);
    }

    /** It is of the tower when it is empty; up to 999 measures are looked at. */
    private static void alikeFromEmpty() {
        PouredTopmost x = Check.standing("1:12/2/2");
        x.pour(1, 1);
        Check.due("what is there is not looked at", x.alike(6), 2);
        Check.refused(x, "it only would be", () -> x.alike(3), 3);
        PouredTopmost late = Check.standing("9:12-/k1:3--/1/k1:4--/k1:5--/9");
        Check.due("2 has 1, 5 a 81st", late.alike(36), 90);
        PouredTopmost later = Check.standing("k1:1--/k1:2--/k1:3--/k1:4--/k1:58-/4/1/1/4");
        Check.due("both from the first on", later.alike(288), 1);
        PouredTopmost last = Check.standing("k1:1--/k1:2--/k1:3--/k1:4--/k1:56-/3/l5:7/3");
        Check.due("needs more than 999", last.alike(160), Check.NONE);
        PouredTopmost latest = Check.standing("9:1--/9:2--/9:3--/9:4--/1:5-/c2");
        Check.due("9, 27, 81, 243, 81 and 162", latest.alike(48), 603);
        PouredTopmost z = Check.standing("9:16-/9:2--/2:3--/2:4--/2:5--/9/3");
        Check.due("9, 27, 18, 54, 162 and 729", z.alike(96), 999);
        PouredTopmost more = Check.standing("1:15-/9:2--/9:3--/9:4--/9/8");
        Check.due("1, 27, 81, 243 and 648", more.alike(48), Check.NONE);
        PouredTopmost thirds = Check.standing("k1:12-/1:3/3/1");
        Check.due("a measure spilt in three goes on", thirds.alike(10), 6);
    }

    private static void alikeRefused() {
        PouredTopmost x = Check.standing("1:1/1/1");
        Check.refused(x, "none", () -> x.alike(0), Check.OUTSIDE);
        Check.refused(x, "one", () -> x.alike(4), Check.OUTSIDE);
        Check.refused(x, "not there", () -> x.alike(9), Check.OUTSIDE);
        Check.refused(x, "not there", () -> x.alike(-1), Check.OUTSIDE);
        Check.due("no tower goes first", new PouredTopmost().alike(0), Check.STATE);
    }

    /** Promise 22, worked out by hand for seeds whose draws are few. */
    private static void pouringsBySeed() {
        PouredTopmost x = Check.standing("1/1/1");
        // 0: 12345, a draw of 0 (12345 by 65536). Then 1406932606: 21468, of 4 is 0. Then
        // 654583775: 9988, of 3 is 1. So a measure comes to 0, and 1 is emptied.
        Check.due("full", x.pourings(1, 0, 0), 1);
        Check.due("nothing", x.pourings(1, 0, 1), 2);
        Check.due("seed", x.pourings(1, 0, 2), 654583775);
        // Then 1449466924: 22117, of 3 is 1. Then 229283573: 3498, of 4 is 2.
        Check.due("full", x.pourings(2, 0, 0), 2);
        Check.due("nothing", x.pourings(2, 0, 1), 1);
        Check.due("seed", x.pourings(2, 0, 2), 229283573);
        Check.due("greatest seed", x.pourings(1, Integer.MAX_VALUE, 2) >= 0 ? 1 : 0, 1);
        Check.refused(x, "as they would be", () -> x.pourings(60, 7, 0) < 0 ? 1 : 0, 0);
    }

    private static void pouringsFromNow() {
        PouredTopmost x = Check.standing("1/1/1");
        x.pour(2, 1);
        x.pour(1, 1);
        // As above: 0 gets one and 1 is emptied, 2 stays.
        Check.due("full", x.pourings(1, 0, 0), 2);
        Check.due("nothing", x.pourings(1, 0, 1), 1);
        PouredTopmost large = Check.standing("2/2/2");
        Check.due("a measure is not two", large.pourings(1, 0, 0), 0);
        Check.due("nothing in two", large.pourings(1, 0, 1), 2);
        PouredTopmost corks = Check.standing("k1/s1/c1");
        Check.due("full, with nothing", corks.pourings(60, 3, 0), 3);
        Check.due("nothing, and full", corks.pourings(60, 3, 1), 3);
    }

    private static void pouringsRefused() {
        PouredTopmost x = Check.standing("1/2");
        Check.refused(x, "times", () -> x.pourings(0, 0, 0), Check.OUTSIDE);
        Check.refused(x, "times", () -> x.pourings(61, 0, 0), Check.OUTSIDE);
        Check.refused(x, "seed", () -> x.pourings(1, -1, 0), Check.OUTSIDE);
        Check.refused(x, "what", () -> x.pourings(1, 0, 3), Check.OUTSIDE);
        Check.refused(x, "what", () -> x.pourings(1, 0, -1), Check.OUTSIDE);
        Check.due("no tower goes first", new PouredTopmost().pourings(0, 0, 0), Check.STATE);
    }
}

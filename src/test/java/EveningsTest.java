/** Promises 18 to 22: evenings. */
public final class EveningsTest {
    public static void main(String[] args) {
        turnZeroToNine();
        turnOfEachKind();
        turnRefused();
        eveningHowMany();
        eveningPouredThenEmptied();
        eveningOfEachTurn();
        eveningNever();
        eveningHoursCountAnew();
        eveningOfAllAtOnce();
        eveningHours();
        eveningMeasures();
        eveningMost();
        eveningRefused();
        chipsOfOne();
        chipsNoneNeedBe();
        chipsOfKindZero();
        chipsOfWhatStands();
        chipsWhenEmpty();
        chipsMeasures();
        alikeLeast();
        alikeMoreThanNothing();
        alikeGreatest();
        alikeNone();
        alikeWhenEmpty();
        alikeTwoAtLeast();
        alikeRefused();
        pouringsByDraws();
        pouringsOfFew();
        pouringsRunOver();
        pouringsFromNow();
        pouringsTimes();
        pouringsSeeds();
        pouringsWhat();
        pouringsRefused();
        Check.end();
    }

    // ---- promise 18

    private static void turnZeroToNine() {
        Check.says("The TURN of a GLASS becomes v: what it was.");
        PouredTopmost x = Check.standing("1/1");
        int was = 0;
        for (int v : new int[] {9, 1, 2, 8, 0, 0, 5}) {
            Check.due("was", x.turn(1, v), was);
            Check.due("is", x.about(1, 7), v);
            was = v;
        }
        Check.due("another one's", x.about(0, 7), 0);
    }

    private static void turnOfEachKind() {
        Check.says("STATE: it is STUCK, and v is not 0");
        PouredTopmost x = Check.standing("1/c1/k1/l1/s1");
        for (int glass = 0; glass < 4; glass++) {
            Check.due("of kind " + glass, x.turn(glass, 3), 0);
            Check.due("of kind " + glass, x.about(glass, 7), 3);
        }
        Check.due("stuck, never", x.turn(4, 0), 0);
        for (int v = 1; v <= 9; v++) {
            int turn = v;
            Check.refused(x, "stuck, " + v, () -> x.turn(4, turn), Check.STATE);
        }
    }

    private static void turnRefused() {
        Check.says("UNKNOWN; OUTSIDE: v (0 to 9); STATE: it is STUCK, and v is not 0.");
        PouredTopmost x = Check.standing("1/s1/k1");
        x.turn(0, 4);
        for (int glass : new int[] {Integer.MIN_VALUE, -1, 3, 9, Integer.MAX_VALUE}) {
            Check.refused(x, "glass " + glass, () -> x.turn(glass, 1), Check.UNKNOWN);
            Check.refused(x, "glass goes first", () -> x.turn(glass, 10), Check.UNKNOWN);
        }
        for (int v : new int[] {Integer.MIN_VALUE, -1, 10, Integer.MAX_VALUE}) {
            Check.refused(x, "v " + v, () -> x.turn(0, v), Check.OUTSIDE);
            Check.refused(x, "stuck, but v goes first", () -> x.turn(1, v), Check.OUTSIDE);
        }
        Check.due("it stays", x.about(0, 7), 4);
    }

    // ---- promise 19

    private static void eveningHowMany() {
        Check.says("An EVENING: how many measures were poured so far.");
        PouredTopmost x = Check.standing("2:1/3");
        Check.due("an hour", x.evening(1, 1), 1);
        Check.due("three by two more", x.evening(3, 2), 7);
        Check.due("with what else was poured", x.pour(1, 9), 16);
        Check.due("and once more", x.evening(2, 9), 34);
        Check.due("count", x.count(1), 34);
    }

    private static void eveningPouredThenEmptied() {
        Check.says("in each so many measures (1 to 9) are poured into GLASS 0, "
            + "then each GLASS whose TURN it is is emptied by its drinker");
        PouredTopmost x = Check.standing("2:1/3");
        x.turn(0, 1);
        Check.due("an hour", x.evening(1, 3), 3);
        Check.inGlass(x, 0, 0, 1);
        Check.inGlass(x, 1, 1, 1);
        Check.drunkFrom(x, 0, 2, 1);
        Check.due("two more", x.evening(2, 9), 21);
        Check.drunkFrom(x, 0, 6, 1);
        Check.inGlass(x, 1, 3, 1);
        Check.ofAll(x, 0, 12, 1);
    }

    private static void eveningOfEachTurn() {
        Check.says("else 1 to 9: in each so-manieth HOUR of the EVENING");
        for (int turn = 1; turn <= 9; turn++) {
            PouredTopmost x = Check.standing("9");
            x.turn(0, turn);
            Check.due("a day", x.evening(24, 1), 24);
            Check.drunkFrom(x, 0, 24 / turn * turn, 1);
            Check.inGlass(x, 0, 24 % turn, 1);
            PouredTopmost y = Check.standing("9");
            y.turn(0, turn);
            if (turn > 1) {
                y.evening(turn - 1, 1);
                Check.drunkFrom(y, 0, 0, 1);
            }
            y.clear();
            y.evening(turn, 1);
            Check.drunkFrom(y, 0, turn, 1);
        }
    }

    private static void eveningNever() {
        Check.says("each has a TURN (0: never;");
        PouredTopmost x = Check.standing("9:1/9/s1/k1");
        x.turn(3, 1);
        Check.due("evening", x.evening(24, 1), 24);
        for (int glass = 0; glass < 4; glass++) {
            Check.drunkFrom(x, glass, 0, 1);
        }
        Check.inGlass(x, 0, 9, 1);
        Check.inGlass(x, 1, 9, 1);
        Check.ofAll(x, 0, 6, 1);
        x.turn(1, 1);
        x.turn(1, 0);
        x.evening(1, 1);
        Check.inGlass(x, 1, 9, 1);
    }

    private static void eveningHoursCountAnew() {
        Check.says("in each so-manieth HOUR of the EVENING");
        PouredTopmost x = Check.standing("9");
        x.turn(0, 2);
        x.evening(1, 1);
        x.evening(1, 1);
        x.evening(1, 1);
        Check.drunkFrom(x, 0, 0, 1);
        Check.inGlass(x, 0, 3, 1);
        x.evening(3, 1);
        Check.drunkFrom(x, 0, 5, 1);
        Check.inGlass(x, 0, 1, 1);
    }

    private static void eveningOfAllAtOnce() {
        Check.says("each GLASS whose TURN it is is emptied by its drinker");
        PouredTopmost x = Check.standing("1:12/9/9/s9");
        x.turn(0, 3);
        x.turn(1, 2);
        x.turn(2, 9);
        // Hours 3, 6 empty glass 0: in 4, 7 nothing runs over, of the others a half each way.
        Check.due("eight hours", x.evening(8, 1), 8);
        Check.drunkFrom(x, 0, 2, 1);
        Check.drunkFrom(x, 1, 5, 2);
        Check.inGlass(x, 0, 1, 1);
        Check.inGlass(x, 1, 0, 1);
        Check.inGlass(x, 2, 5, 2);
        PouredTopmost nine = Check.standing("1:1/1:2/1:3/1:4/1:5/1:6/1:7/1:8/1");
        for (int glass = 0; glass < 9; glass++) {
            nine.turn(glass, 1);
        }
        nine.evening(2, 9);
        for (int glass = 0; glass < 9; glass++) {
            Check.drunkFrom(nine, glass, 2, 1);
            Check.inGlass(nine, glass, 0, 1);
        }
    }

    private static void eveningHours() {
        Check.says("An EVENING of so many HOURS (1 to 24)");
        PouredTopmost x = Check.standing("9");
        for (int hours : new int[] {Integer.MIN_VALUE, -1, 0, 25, Integer.MAX_VALUE}) {
            Check.refused(x, "hours " + hours, () -> x.evening(hours, 1), Check.OUTSIDE);
        }
        Check.due("the least", x.evening(1, 1), 1);
        Check.due("the most", x.evening(24, 1), 25);
    }

    private static void eveningMeasures() {
        Check.says("in each so many measures (1 to 9)");
        PouredTopmost x = Check.standing("9");
        for (int measures : new int[] {Integer.MIN_VALUE, -1, 0, 10, Integer.MAX_VALUE}) {
            Check.refused(x, "measures " + measures, () -> x.evening(1, measures), Check.OUTSIDE);
            Check.refused(x, "both " + measures, () -> x.evening(measures + 24, measures), Check.OUTSIDE);
        }
        Check.due("the least", x.evening(1, 1), 1);
        Check.due("the most", x.evening(1, 9), 10);
        Check.due("the most of all", x.evening(24, 9), 226);
    }

    private static void eveningMost() {
        Check.says("STATE: they would be more than 9999");
        PouredTopmost x = Check.standing("1/1");
        x.turn(0, 1);
        for (int i = 0; i < 98; i++) {
            x.pour(1, 99);
        }
        Check.due("216 more can be", x.pour(1, 81), 9783);
        x.image();
        Check.due("9999", x.evening(24, 9), 9999);
        Check.refused(x, "10000", () -> x.evening(1, 1), Check.STATE);
        x.restore();
        x.pour(1, 1);
        Check.refused(x, "24 by 9 are 10000", () -> x.evening(24, 9), Check.STATE);
        Check.drunkFrom(x, 0, 0, 1);
        Check.due("23 by 9 are not", x.evening(23, 9), 9991);
        Check.refused(x, "9 by 1 are 10000", () -> x.evening(9, 1), Check.STATE);
        Check.refused(x, "1 by 9 are 10000", () -> x.evening(1, 9), Check.STATE);
        Check.refused(x, "hours go first", () -> x.evening(25, 9), Check.OUTSIDE);
        Check.refused(x, "measures go first", () -> x.evening(24, 10), Check.OUTSIDE);
        Check.due("8 are 9999", x.evening(2, 4), 9999);
    }

    private static void eveningRefused() {
        Check.says("STATE: no TOWER; OUTSIDE: hours, measures; STATE: they would be more than 9999.");
        for (int number : new int[] {Integer.MIN_VALUE, -1, 0, 1, 25, Integer.MAX_VALUE}) {
            Check.due("no tower goes first", new PouredTopmost().evening(number, 1), Check.STATE);
            Check.due("no tower goes first", new PouredTopmost().evening(1, number), Check.STATE);
        }
    }

    // ---- promise 20

    private static void chipsOfOne() {
        Check.says("which one GLASS of KIND 0 could be CHIPPED");
        PouredTopmost x = Check.standing("3:12/2:3/2:3/9");
        // If 0 took 2, of 6 poured there would be 2 in each of 0, 1 and 2.
        x.pour(0, 2);
        x.pour(1, 2);
        x.pour(2, 2);
        Check.due("0 is chipped", x.chips(6), 1);
        Check.due("by no other number", x.chips(5), 0);
        Check.due("by no other number", x.chips(7), 0);
        PouredTopmost y = Check.standing("1:1/2");
        y.pour(1, 2);
        Check.due("0 takes nothing then", y.chips(2), 1);
        Check.due("what is spilt then is not looked at", y.chips(999), 1);
        PouredTopmost two = Check.standing("2:1/2:2/5");
        two.pour(0, 1);
        two.pour(1, 1);
        Check.due("the first", two.chips(2), 1);
        two.pour(2, 1);
        Check.due("it would take two that are", two.chips(3), 0);
        PouredTopmost last = Check.standing("1/1/1/1/1/1/1/1/1");
        last.pour(0, 1);
        Check.due("one that gets nothing may be", last.chips(1), 512 + 510);
    }

    private static void chipsNoneNeedBe() {
        Check.says("as bits (bit 9: none need be)");
        PouredTopmost x = Check.standing("3:12/2:3/2:3/9");
        Check.due("nothing poured, all empty", x.chips(0), 512 + 15);
        x.pour(0, 2);
        Check.due("what is not full may be", x.chips(2), 512 + 15);
        x.pour(0, 1);
        Check.due("not 0", x.chips(3), 512 + 14);
        x.pour(0, 4);
        Check.due("not 1, 2", x.chips(7), 512 + 8);
        Check.due("one less", x.chips(6), 0);
        Check.due("one more", x.chips(8), 0);
        PouredTopmost y = Check.standing("1");
        y.pour(0, 1);
        Check.due("none could be", y.chips(1), 512);
    }

    private static void chipsOfKindZero() {
        Check.says("which one GLASS of KIND 0");
        PouredTopmost x = Check.standing("c2/k2/l2/s2/2/1/1/1/1");
        Check.due("kind 0 alone", x.chips(0), 512 + 16 + 32 + 64 + 128 + 256);
        Check.due("none of kind 0", Check.standing("c2/k2/l2/s2").chips(0), 512);
        PouredTopmost leaning = Check.standing("l3:1-/9");
        leaning.pour(0, 2);
        leaning.pour(1, 2);
        Check.due("a leaning one could not be", leaning.chips(5), 0);
        PouredTopmost chipped = Check.standing("c3:1/9");
        chipped.pour(0, 1);
        chipped.pour(1, 2);
        Check.due("nor a chipped one once more", chipped.chips(3), 0);
    }

    private static void chipsOfWhatStands() {
        Check.says("leave just what stands in all of them now");
        PouredTopmost x = Check.standing("1:1/2/1");
        x.pour(0, 3);
        Check.due("all of them", x.chips(3), 512 + 4);
        x.pour(2, 1);
        Check.due("but for one", x.chips(3), 0);
        x.drink(2);
        Check.due("emptied", x.chips(3), 512 + 4);
        x.pour(2, 99);
        x.drink(2);
        Check.due("what was spilt, drunk, poured is not looked at", x.chips(3), 512 + 4);
        Check.due("nor that more would be spilt", x.chips(99), 512 + 4);
        PouredTopmost thirds = Check.standing("1:1--/2");
        thirds.pour(0, 2);
        Check.due("a third", thirds.chips(2), 512 + 2);
        Check.due("nothing", thirds.chips(1), 0);
    }

    private static void chipsWhenEmpty() {
        Check.says("so many measures poured into GLASS 0 of THE TOWER when it is empty");
        PouredTopmost x = Check.standing("5:1/5");
        x.pour(0, 3);
        Check.due("3 as of empty", x.chips(3), 512 + 3);
        Check.due("not 0 more", x.chips(0), 0);
        Check.refused(x, "it only would be", () -> x.chips(3), 512 + 3);
        PouredTopmost y = Check.standing("5:1/5");
        y.pour(1, 3);
        Check.due("not into another", y.chips(3), 0);
    }

    private static void chipsMeasures() {
        Check.says("STATE: no TOWER; OUTSIDE: measures (0 to 999).");
        PouredTopmost x = Check.standing("1");
        Check.due("the least", x.chips(0), 513);
        x.pour(0, 1);
        Check.due("the least", x.chips(0), 0);
        Check.due("the greatest", x.chips(999), 512);
        for (int measures : new int[] {Integer.MIN_VALUE, -1, 1000, Integer.MAX_VALUE}) {
            Check.refused(x, "measures " + measures, () -> x.chips(measures), Check.OUTSIDE);
            Check.due("no tower goes first", new PouredTopmost().chips(measures), Check.STATE);
        }
        Check.due("no tower", new PouredTopmost().chips(0), Check.STATE);
    }

    // ---- promise 21

    private static void alikeLeast() {
        Check.says("the least whole number of measures (1 to 999)");
        PouredTopmost x = Check.standing("1:12/2:3/2:3/3");
        Check.due("1 and 2, from the first drop", x.alike(6), 2);
        Check.due("0 and 1", x.alike(3), 3);
        Check.due("0 to 2", x.alike(7), 3);
        Check.due("1 and 3", x.alike(10), 7);
        Check.due("1 to 3", x.alike(14), 7);
        Check.due("0 and 3", x.alike(9), 6);
        Check.due("the least of all", Check.standing("k1:12/5/5").alike(6), 1);
        PouredTopmost nine = Check.standing("1:1/1:2/1:3/1:4/1:5/1:6/1:7/1:8/1");
        Check.due("all nine", nine.alike(511), 9);
        Check.due("the last two", nine.alike(256 + 128), 9);
        PouredTopmost once = Check.standing("1:12/1:2/9");
        Check.due("for a while alike", once.alike(6), 2);
    }

    private static void alikeMoreThanNothing() {
        Check.says("behind which all GLASSES of a set have alike, and more than nothing");
        PouredTopmost y = Check.standing("2:1/k2:2/2/c1/s2");
        Check.due("full, both", y.alike(5), 4);
        Check.due("one has nothing", y.alike(3), Check.NONE);
        Check.due("one has nothing", y.alike(9), Check.NONE);
        Check.due("one has nothing", y.alike(21), Check.NONE);
        Check.due("both have nothing", y.alike(10), Check.NONE);
        Check.due("all have nothing", y.alike(26), Check.NONE);
        Check.due("the second has nothing yet", Check.standing("1:1/1").alike(3), 2);
    }

    private static void alikeGreatest() {
        Check.says("(1 to 999)");
        PouredTopmost z = Check.standing("9:16-/9:2--/2:3--/2:4--/2:5--/9/3");
        Check.due("9, 27, 18, 54, 162 and 729", z.alike(96), 999);
        PouredTopmost more = Check.standing("1:15-/9:2--/9:3--/9:4--/9/8");
        Check.due("1, 27, 81, 243 and 648", more.alike(48), Check.NONE);
        PouredTopmost late = Check.standing("9:12-/k1:3--/1/k1:4--/k1:5--/9");
        Check.due("2 has 1, 5 an 81st", late.alike(36), 90);
        PouredTopmost latest = Check.standing("9:1--/9:2--/9:3--/9:4--/1:5-/c2");
        Check.due("9, 27, 81, 243, 81 and 162", latest.alike(48), 603);
    }

    private static void alikeNone() {
        Check.says("ALIKE; NONE.");
        PouredTopmost x = Check.standing("1:12/2:3/2:3/3");
        Check.due("all", x.alike(15), Check.NONE);
        Check.due("one is never reached", Check.standing("5/5").alike(3), Check.NONE);
        PouredTopmost last = Check.standing("k1:1--/k1:2--/k1:3--/k1:4--/k1:56-/3/l5:7/3");
        Check.due("needs more than 999", last.alike(160), Check.NONE);
        // To 1 come 2/3, 4/3, 2: as much as 0 has if that is 2, not by a whole number if it is 1.
        Check.due("2 and 2", Check.standing("l2:1-/5").alike(3), 5);
        Check.due("never 1 and 1", Check.standing("l1:1-/5").alike(3), Check.NONE);
        PouredTopmost thirds = Check.standing("k1:12-/1:3/3/1");
        Check.due("a measure spilt in three goes on", thirds.alike(10), 6);
    }

    private static void alikeWhenEmpty() {
        Check.says("poured into GLASS 0 of THE TOWER when it is empty");
        PouredTopmost x = Check.standing("1:12/2/2");
        x.pour(1, 1);
        Check.due("what is there is not looked at", x.alike(6), 2);
        Check.refused(x, "it only would be", () -> x.alike(3), 3);
    }

    private static void alikeTwoAtLeast() {
        Check.says("OUTSIDE: set (bits of GLASSES, two at least)");
        PouredTopmost x = Check.standing("1:1/1/1/1/1/1/1/1/1");
        Check.refused(x, "none", () -> x.alike(0), Check.OUTSIDE);
        for (int glass = 0; glass < 9; glass++) {
            int set = 1 << glass;
            Check.refused(x, "one " + glass, () -> x.alike(set), Check.OUTSIDE);
        }
        Check.due("two", x.alike(3), 2);
        PouredTopmost one = Check.standing("1");
        Check.refused(one, "there is no other", () -> one.alike(1), Check.OUTSIDE);
        Check.refused(one, "there is no other", () -> one.alike(3), Check.OUTSIDE);
    }

    private static void alikeRefused() {
        Check.says("STATE: no TOWER; OUTSIDE: set (bits of GLASSES, two at least).");
        PouredTopmost x = Check.standing("1:1/1/1");
        int[] sets = {Integer.MIN_VALUE, Integer.MIN_VALUE + 3, -1, 8, 9, 11, 15, 515, Integer.MAX_VALUE};
        for (int set : sets) {
            Check.refused(x, "not there " + set, () -> x.alike(set), Check.OUTSIDE);
            Check.due("no tower goes first", new PouredTopmost().alike(set), Check.STATE);
        }
        Check.due("no tower goes first", new PouredTopmost().alike(0), Check.STATE);
        PouredTopmost nine = Check.standing("1/1/1/1/1/1/1/1/1");
        Check.refused(nine, "a tenth", () -> nine.alike(513), Check.OUTSIDE);
    }

    // ---- promise 22

    private static void pourings(PouredTopmost x, int times, int seed, int full, int nothing) {
        Check.due("full by " + times + " of " + seed, x.pourings(times, seed, 0), full);
        Check.due("nothing by " + times + " of " + seed, x.pourings(times, seed, 1), nothing);
    }

    /** Worked out by hand for seeds whose draws are few. */
    private static void pouringsByDraws() {
        Check.says("each a measure into a GLASS by a DRAW of how many there are; then, "
            + "if a DRAW of 4 is 0, the GLASS by a DRAW of how many there are is emptied");
        PouredTopmost x = Check.standing("1/1/1");
        // 0: 12345, a draw of 0 (12345 by 65536). Then 1406932606: 21468, of 4 is 0. Then
        // 654583775: 9988, of 3 is 1. So a measure comes to 0, and 1 is emptied.
        pourings(x, 1, 0, 1, 2);
        Check.due("seed", x.pourings(1, 0, 2), 654583775);
        // Then 1449466924: 22117, of 3 is 1. Then 229283573: 3498, of 4 is 2.
        pourings(x, 2, 0, 2, 1);
        Check.due("seed", x.pourings(2, 0, 2), 229283573);
        // Of 2147483647 a measure comes to 2, 1, 1, 2, 1, 2; then to 0, and 1 is emptied; to 1.
        pourings(x, 1, Integer.MAX_VALUE, 1, 2);
        pourings(x, 6, Integer.MAX_VALUE, 2, 1);
        pourings(x, 7, Integer.MAX_VALUE, 2, 1);
        pourings(x, 8, Integer.MAX_VALUE, 3, 0);
        PouredTopmost large = Check.standing("2/2/2");
        pourings(large, 1, 0, 0, 2);
    }

    private static void pouringsOfFew() {
        Check.says("then that by 65536 (rounded down), its rest");
        PouredTopmost one = Check.standing("1");
        // Of 0 the only one is emptied the first time, and not the second.
        pourings(one, 1, 0, 0, 1);
        pourings(one, 2, 0, 1, 0);
        PouredTopmost nine = Check.standing("1/1/1/1/1/1/1/1/1");
        // Of 1 a measure comes to 8, 6, 1, 6, 3, 4; to 3, and 5 is emptied; to 2.
        pourings(nine, 1, 1, 1, 8);
        pourings(nine, 7, 1, 5, 4);
        pourings(nine, 8, 1, 6, 3);
    }

    private static void pouringsRunOver() {
        Check.says("POURINGS by a SEED, as they would be");
        PouredTopmost x = Check.standing("1:1/4");
        // Of 2147483647: 1, 0, 1, 0, 0, 1; 1, which is emptied; 0. What is more runs over.
        pourings(x, 4, Integer.MAX_VALUE, 1, 0);
        pourings(x, 5, Integer.MAX_VALUE, 2, 0);
        pourings(x, 7, Integer.MAX_VALUE, 1, 1);
        pourings(x, 8, Integer.MAX_VALUE, 1, 0);
        PouredTopmost corks = Check.standing("k1/s1/c1");
        pourings(corks, 60, 3, 3, 3);
    }

    private static void pouringsFromNow() {
        Check.says("POURINGS by a SEED, as they would be");
        PouredTopmost x = Check.standing("1/1/1");
        x.pour(2, 1);
        x.pour(1, 1);
        // Of 0, as above: 0 gets one and 1 is emptied, 2 stays.
        pourings(x, 1, 0, 2, 1);
        Check.refused(x, "it changes nothing", () -> x.pourings(60, 0, 2), 1353928108);
        PouredTopmost most = Check.standing("1/1/1");
        for (int i = 0; i < 101; i++) {
            most.pour(0, 99);
        }
        Check.due("though 9999 were poured", most.pourings(60, 0, 2), 1353928108);
    }

    private static void pouringsTimes() {
        Check.says("so many (1 to 60)");
        PouredTopmost x = Check.standing("1/2");
        for (int times : new int[] {Integer.MIN_VALUE, -1, 0, 61, Integer.MAX_VALUE}) {
            for (int what = 0; what <= 2; what++) {
                int told = what;
                Check.refused(x, "times " + times, () -> x.pourings(times, 0, told), Check.OUTSIDE);
            }
        }
        Check.due("the least", x.pourings(1, 1, 2), 377401575);
        Check.due("the most", x.pourings(60, 1, 2), 169262781);
    }

    private static void pouringsSeeds() {
        Check.says("1103515245 times it and 12345, its rest by 2 to the 31");
        PouredTopmost x = Check.standing("1/2");
        for (int seed : new int[] {Integer.MIN_VALUE, -2, -1}) {
            Check.refused(x, "seed " + seed, () -> x.pourings(1, seed, 2), Check.OUTSIDE);
        }
        Check.due("a seed of 0", x.pourings(1, 0, 2), 654583775);
        Check.due("a seed of 0", x.pourings(60, 0, 2), 1353928108);
        Check.due("the greatest", x.pourings(1, Integer.MAX_VALUE, 2), 288979989);
        Check.due("the greatest", x.pourings(60, Integer.MAX_VALUE, 2), 1025136696);
        Check.due("12345, the second of 0", x.pourings(1, 12345, 2), 1449466924);
    }

    private static void pouringsWhat() {
        Check.says("what = 0 how many GLASSES are FULL then, 1 how many have nothing, 2 the SEED then");
        PouredTopmost x = Check.standing("1/2/k1");
        // Of 2147483647 a measure comes to 2, which is corked, to 1, to 1 again.
        int[][] due = {{1, 3, 288979989}, {1, 2, 1751031067}, {2, 2, 1849869457}};
        for (int times = 1; times <= due.length; times++) {
            for (int what = 0; what <= 2; what++) {
                Check.due("what " + what, x.pourings(times, Integer.MAX_VALUE, what), due[times - 1][what]);
            }
        }
    }

    private static void pouringsRefused() {
        Check.says("STATE: no TOWER; OUTSIDE: times (1 to 60), seed (0 at least), what.");
        PouredTopmost x = Check.standing("1/2");
        for (int what : new int[] {Integer.MIN_VALUE, -1, 3, Integer.MAX_VALUE}) {
            Check.refused(x, "what " + what, () -> x.pourings(1, 0, what), Check.OUTSIDE);
            Check.due("no tower goes first", new PouredTopmost().pourings(1, 0, what), Check.STATE);
        }
        Check.due("no tower goes first", new PouredTopmost().pourings(0, 0, 0), Check.STATE);
        Check.due("no tower goes first", new PouredTopmost().pourings(1, -1, 0), Check.STATE);
    }
}

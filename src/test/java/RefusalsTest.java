import java.util.ArrayList;
import java.util.List;

/**
 * "Refusals, of several the first as told by each call: UNKNOWN (a number names nothing), OUTSIDE
 * (it is not as told), STATE (as told), FULL; they change nothing." Each refusal is made on an
 * object that has something of everything, whose twin is spared it: both go on alike.
 */
public final class RefusalsTest {
    private static final int LEAST = Integer.MIN_VALUE;
    private static final int GREATEST = Integer.MAX_VALUE;

    private interface Made {
        PouredTopmost object();
    }

    private interface Call {
        long on(PouredTopmost x);
    }

    private record Refusal(String told, Call call, long due) {
    }

    private final List<Refusal> refusals = new ArrayList<>();

    public static void main(String[] args) {
        Check.says("Refusals, of several the first as told by each call: UNKNOWN (a number names nothing), "
            + "OUTSIDE (it is not as told), STATE (as told), FULL; they change nothing.");
        withoutATower().allOn("no tower", RefusalsTest::newOne);
        withoutATower().allOn("no tower, a page", () -> Check.written("2:1/"));
        withATower().allOn("a tower", RefusalsTest::used);
        whenFull().allOn("9999 poured, 30 changes, 70 letters", RefusalsTest::usedUp);
        Check.end();
    }

    private static PouredTopmost newOne() {
        return new PouredTopmost();
    }

    /** Four glasses, of which 2 is stuck: poured, drunk, turned, kept, and a page begun. */
    private static PouredTopmost used() {
        PouredTopmost x = Check.standing("l2:12/c3:3-/s1:3/4");
        x.pour(0, 5);
        x.drink(0);
        x.turn(1, 3);
        x.change(7, 0);
        x.image();
        x.pour(0, 6);
        x.turn(0, 2);
        x.evening(3, 2);
        Check.write(x, "2:1/");
        return x;
    }

    private static PouredTopmost usedUp() {
        PouredTopmost x = Check.standing("2:12/1:3-/s1:3/4");
        x.pour(3, 1);
        x.image();
        for (int i = 0; i < 100; i++) {
            x.pour(i % 4, 99);
        }
        x.pour(0, 98);
        for (int i = 0; i < 30; i++) {
            x.change(9, 0);
        }
        Check.write(x, "7".repeat(70));
        return x;
    }

    private void is(long due, String told, Call call) {
        refusals.add(new Refusal(told, call, due));
    }

    /** Every number that names no glass, with what else is wrong behind it. */
    private void unknown(int... glasses) {
        for (int glass : glasses) {
            String told = " of " + glass;
            for (int other : new int[] {LEAST, -1, 0, 1, 100, GREATEST}) {
                is(Check.UNKNOWN, "about" + told, x -> x.about(glass, other));
                is(Check.UNKNOWN, "as" + told, x -> x.as(glass, other));
                is(Check.UNKNOWN, "pour" + told, x -> x.pour(glass, other));
                is(Check.UNKNOWN, "in" + told, x -> x.in(glass, other));
                is(Check.UNKNOWN, "drunk" + told, x -> x.drunk(glass, other));
                is(Check.UNKNOWN, "need" + told, x -> x.need(glass, other));
                is(Check.UNKNOWN, "need from" + told, x -> x.need(other, glass));
                is(Check.UNKNOWN, "costs" + told, x -> x.costs(glass, other, 0));
                is(Check.UNKNOWN, "costs part" + told, x -> x.costs(glass, 1, other));
                is(Check.UNKNOWN, "turn" + told, x -> x.turn(glass, other));
            }
            is(Check.UNKNOWN, "drink" + told, x -> x.drink(glass));
        }
    }

    private static RefusalsTest withoutATower() {
        RefusalsTest test = new RefusalsTest();
        test.unknown(LEAST, -1, 0, 1, 8, 9, GREATEST);
        for (int number : new int[] {LEAST, -1, 0, 1, 3, 1000, GREATEST}) {
            String told = " of " + number;
            test.is(Check.STATE, "needAll" + told, x -> x.needAll(number));
            test.is(Check.STATE, "change" + told, x -> x.change(number, 0));
            test.is(Check.STATE, "change what" + told, x -> x.change(1, number));
            test.is(Check.STATE, "evening" + told, x -> x.evening(number, 1));
            test.is(Check.STATE, "evening measures" + told, x -> x.evening(1, number));
            test.is(Check.STATE, "chips" + told, x -> x.chips(number));
            test.is(Check.STATE, "alike" + told, x -> x.alike(number));
            test.is(Check.STATE, "pourings" + told, x -> x.pourings(number, 0, 0));
            test.is(Check.STATE, "pourings seed" + told, x -> x.pourings(1, number, 0));
            test.is(Check.STATE, "pourings what" + told, x -> x.pourings(1, 0, number));
        }
        test.is(Check.STATE, "tower", PouredTopmost::tower);
        test.is(Check.STATE, "image", PouredTopmost::image);
        test.is(Check.STATE, "restore", PouredTopmost::restore);
        test.outsideWithoutATower();
        return test;
    }

    private void outsideWithoutATower() {
        for (int number : new int[] {LEAST, -1, 2, GREATEST}) {
            is(Check.OUTSIDE, "all of " + number, x -> x.all(number, 0));
            is(Check.OUTSIDE, "all part " + number, x -> x.all(1, number));
            is(Check.OUTSIDE, "count of " + number, x -> x.count(number == 2 ? 6 : number));
        }
        is(Check.OUTSIDE, "letters above 126", x -> x.letters(0x7F31L));
        is(Check.OUTSIDE, "letters behind a 0", x -> x.letters(0x310031L));
    }

    private static RefusalsTest withATower() {
        RefusalsTest test = new RefusalsTest();
        test.unknown(LEAST, -1, 4, 9, GREATEST);
        test.outsideWithoutATower();
        test.outside();
        test.is(Check.STATE, "drink of a stuck one", x -> x.drink(2));
        for (int v = 1; v <= 9; v++) {
            int turn = v;
            test.is(Check.STATE, "turn of a stuck one", x -> x.turn(2, turn));
        }
        test.is(Check.STATE, "tower of a page begun", PouredTopmost::tower);
        return test;
    }

    /** What is not as told, in each place of each call, the glass being there. */
    private void outside() {
        for (int number : new int[] {LEAST, -1, 10, GREATEST}) {
            is(Check.OUTSIDE, "about " + number, x -> x.about(3, number));
            is(Check.OUTSIDE, "as " + number, x -> x.as(3, number));
            is(Check.OUTSIDE, "in " + number, x -> x.in(3, number));
            is(Check.OUTSIDE, "drunk " + number, x -> x.drunk(3, number));
            is(Check.OUTSIDE, "turn " + number, x -> x.turn(0, number));
            is(Check.OUTSIDE, "turn of a stuck one " + number, x -> x.turn(2, number));
            is(Check.OUTSIDE, "evening measures " + number, x -> x.evening(24, number));
            is(Check.OUTSIDE, "change what " + number, x -> x.change(9, number));
            is(Check.OUTSIDE, "costs part " + number, x -> x.costs(0, 9, number));
            is(Check.OUTSIDE, "pourings what " + number, x -> x.pourings(9, 9, number));
        }
        for (int number : new int[] {LEAST, -1, 0, 100, GREATEST}) {
            is(Check.OUTSIDE, "pour " + number, x -> x.pour(0, number));
            is(Check.OUTSIDE, "change " + number, x -> x.change(number, 0));
            is(Check.OUTSIDE, "costs " + number, x -> x.costs(0, number, 0));
            is(Check.OUTSIDE, "evening " + number, x -> x.evening(number, 1));
            is(Check.OUTSIDE, "pourings " + number, x -> x.pourings(number, 0, 0));
        }
        for (int number : new int[] {LEAST, -1, 16, 1000, GREATEST}) {
            is(Check.OUTSIDE, "needAll " + number, x -> x.needAll(number));
            is(Check.OUTSIDE, "alike " + number, x -> x.alike(number));
            is(Check.OUTSIDE, "chips " + number, x -> x.chips(number == 16 ? 1001 : number));
        }
        for (int set : new int[] {0, 1, 2, 4, 8}) {
            is(Check.OUTSIDE, "alike of one " + set, x -> x.alike(set));
        }
        is(Check.OUTSIDE, "pourings of -1", x -> x.pourings(1, -1, 2));
        is(Check.OUTSIDE, "pourings of the least", x -> x.pourings(1, LEAST, 2));
    }

    private static RefusalsTest whenFull() {
        RefusalsTest test = new RefusalsTest();
        test.unknown(LEAST, -1, 4, 9, GREATEST);
        test.outsideWithoutATower();
        test.outside();
        for (int measures : new int[] {1, 2, 99}) {
            for (int glass = 0; glass < 4; glass++) {
                int into = glass;
                test.is(Check.STATE, "pour of " + measures, x -> x.pour(into, measures));
            }
        }
        test.is(Check.STATE, "evening of an hour", x -> x.evening(1, 1));
        test.is(Check.STATE, "evening of a day", x -> x.evening(24, 9));
        test.is(Check.STATE, "change of 1", x -> x.change(1, 0));
        test.is(Check.STATE, "change of 99", x -> x.change(99, 1));
        test.is(Check.STATE, "tower of what is none", PouredTopmost::tower);
        test.is(Check.FULL, "a letter", x -> x.letters(0x31L));
        test.is(Check.FULL, "eight letters", x -> x.letters(0x3131313131313131L));
        return test;
    }

    private void allOn(String told, Made made) {
        for (Refusal refusal : refusals) {
            PouredTopmost x = made.object();
            PouredTopmost twin = made.object();
            String what = told + ": " + refusal.told();
            Check.due(what, refusal.call().on(x), refusal.due());
            goOnAlike(what + ": it changes nothing", x, twin);
        }
    }

    /** All that is told, the image, and what comes behind it. */
    private static void goOnAlike(String what, PouredTopmost x, PouredTopmost twin) {
        Check.due(what, x.digest(), twin.digest());
        Check.due(what + ", fault", x.fault(), twin.fault());
        Check.due(what + ", restore", x.restore(), twin.restore());
        Check.due(what + ", the image", x.digest(), twin.digest());
        Check.due(what + ", change", x.change(9, 1), twin.change(9, 1));
        Check.due(what + ", evening", x.evening(5, 3), twin.evening(5, 3));
        Check.due(what + ", letters", x.letters(0x31L), twin.letters(0x31L));
        Check.due(what + ", tower", x.tower(), twin.tower());
        Check.due(what + ", then", x.digest(), twin.digest());
    }
}

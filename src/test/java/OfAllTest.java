/** Promises 23 to 26: what is told of all. */
public final class OfAllTest {
    public static void main(String[] args) {
        imageIsKept();
        imageOfTheLatest();
        restoreRefused();
        counts();
        digestOfNothing();
        digestOfATower();
        digestOfNeed();
        digestOfManyPoured();
        Check.end();
    }

    /** Promises 23 and 24: what is in each glass, spilt, drunk, turns, poured. */
    private static void imageIsKept() {
        PouredTopmost x = Check.standing("2:1-/1");
        x.pour(0, 5);
        x.drink(1);
        x.pour(0, 1);
        x.turn(0, 4);
        long before = x.digest();
        Check.due("image", x.image(), 6);
        Check.due("it changes nothing", x.digest(), before);
        x.pour(1, 99);
        x.drink(0);
        x.turn(0, 7);
        x.turn(1, 2);
        Check.due("restore", x.restore(), 6);
        Check.due("all is as it was", x.digest(), before);
        Check.inGlass(x, 0, 2, 1);
        Check.inGlass(x, 1, 1, 2);
        Check.drunkFrom(x, 1, 1, 1);
        Check.ofAll(x, 0, 5, 2);
        Check.due("turn", x.about(0, 7), 4);
        Check.due("turn", x.about(1, 7), 0);
        x.clear();
        Check.due("once more", x.restore(), 6);
        Check.due("all is as it was", x.digest(), before);
    }

    /** Changes, letters and towers read are none of an image's. */
    private static void imageOfTheLatest() {
        PouredTopmost x = Check.standing("2:1/1");
        x.pour(0, 1);
        x.image();
        x.pour(0, 1);
        Check.due("a later one", x.image(), 2);
        x.change(3, 0);
        Check.write(x, "12");
        x.clear();
        Check.due("of the latest", x.restore(), 2);
        Check.inGlass(x, 0, 2, 1);
        Check.due("letters", x.count(3), 2);
        Check.due("changes", x.count(5), 1);
        Check.due("towers", x.count(4), 1);
        Check.due("no tower", new PouredTopmost().image(), Check.STATE);
    }

    private static void restoreRefused() {
        PouredTopmost x = Check.standing("2:1/1");
        Check.refused(x, "none was kept", x::restore, Check.STATE);
        x.pour(0, 3);
        x.image();
        Check.write(x, "2:1/1");
        x.tower();
        x.pour(0, 1);
        Check.refused(x, "another tower since", x::restore, Check.STATE);
        Check.due("image", x.image(), 1);
        Check.write(x, "2:");
        x.tower();
        Check.due("what is no tower is none since", x.restore(), 1);
        Check.due("no tower", new PouredTopmost().restore(), Check.STATE);
    }

    /** Promise 25. */
    private static void counts() {
        PouredTopmost x = Check.standing("2:1/1/k3");
        x.pour(0, 3);
        x.change(1, 0);
        x.change(1, 5);
        Check.write(x, "1234");
        x.tower();
        int[] due = {3, 3, 3, 4, 1, 1};
        for (int what = 0; what < due.length; what++) {
            Check.due("count " + what, x.count(what), due[what]);
        }
        x.drink(0);
        Check.due("full ones", x.count(2), 2);
        Check.refused(x, "what", () -> x.count(6), Check.OUTSIDE);
        Check.refused(x, "what", () -> x.count(-1), Check.OUTSIDE);
        x.blank();
        Check.write(x, "1");
        x.tower();
        int[] then = {1, 0, 0, 0, 2, 1};
        for (int what = 0; what < then.length; what++) {
            Check.due("count then " + what, x.count(what), then[what]);
        }
    }

    private static long hash(long... numbers) {
        long h = 631;
        for (long number : numbers) {
            h = 31 * h + number;
        }
        return h;
    }

    /** Promise 26: each number in its place. */
    private static void digestOfNothing() {
        PouredTopmost x = new PouredTopmost();
        Check.due("empty", x.digest(), hash(0, 1, 0, 1, 0, 0, 0, 0, 0, 0));
        Check.write(x, "1x");
        Check.due("two letters", x.digest(), hash(0, 1, 0, 1, '1', 'x', 0, 0, 0, 2, 0, 0));
        Check.due("it changes nothing", x.digest(), hash(0, 1, 0, 1, '1', 'x', 0, 0, 0, 2, 0, 0));
    }

    private static void digestOfATower() {
        PouredTopmost x = Check.standing("l2:1-/c3");
        x.pour(0, 3);
        x.drink(1);
        x.pour(0, 1);
        x.turn(1, 5);
        x.change(1, 1);
        Check.write(x, ":");
        Check.due("tower", x.digest(), hash(
            3, 2, 2, 2, 1, 9, -1, 0, 1, 2, 1, 0, 1,
            1, 3, 2, 0, -1, -1, -1, 5, 0, 2, 3, 2, 3,
            2, 3, 8, 3, 2, 0, ':', 2, 4, 1, 1, 1, 1));
        PouredTopmost y = Check.standing("2:1/3");
        y.pour(0, 3);
        Check.due("chips", y.digest(), hash(
            0, 2, 2, 1, 1, -1, -1, 0, 1, 2, 1, 0, 1,
            0, 3, 3, 0, -1, -1, -1, 0, 0, 1, 1, 0, 1,
            0, 1, 3, 1, 2, 512 + 2, 2, 3, 1, 0, 1, 0));
    }

    /** NEEDALL is of all glasses, from the topmost. */
    private static void digestOfNeed() {
        PouredTopmost x = Check.standing("3:1-/2");
        x.pour(0, 7);
        x.drink(0);
        Check.due("0 is emptied", x.digest(), hash(
            0, 3, 3, 2, 1, 9, -1, 0, 0, 0, 1, 3, 1,
            0, 2, 2, 0, -1, -1, -1, 0, 1, 2, 1, 0, 1,
            2, 1, 2, 1, 3, 0, 2, 7, 1, 0, 1, 0));
    }

    /** Of more than 999 measures poured, 999 are looked at for the chips. */
    private static void digestOfManyPoured() {
        PouredTopmost x = Check.standing("2");
        for (int i = 0; i < 11; i++) {
            x.pour(0, 99);
        }
        Check.due("1089", x.digest(), hash(
            0, 2, 2, 0, -1, -1, -1, 0, 1, 2, 1, 0, 1,
            1087, 1, 2, 1, 0, 512, 1, 1089, 1, 0, 1, 0));
    }
}

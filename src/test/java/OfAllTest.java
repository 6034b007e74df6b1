import java.util.Arrays;

/** Promises 23 to 26: what is told of all. */
public final class OfAllTest {
    public static void main(String[] args) {
        imageKeeps();
        imageOfTheLatest();
        imageIsNoneOfTheRest();
        imageRefused();
        restoreGoesOn();
        restoreNoneKept();
        restoreAnotherTower();
        countEach();
        countWithoutATower();
        countOfFull();
        countOfTowersAndChanges();
        countRefused();
        digestWithoutATower();
        digestOfThePage();
        digestOfOneGlass();
        digestOfATower();
        digestOfNineGlasses();
        digestOfNeed();
        digestOfChips();
        digestOfManyPoured();
        digestWraps();
        manyCalls();
        Check.end();
    }

    // ---- promises 23 and 24

    private static void imageKeeps() {
        Check.says("An IMAGE keeps what is in each GLASS, SPILT, DRUNK, TURNS, POURED.");
        PouredTopmost x = Check.standing("2:1-/1");
        x.pour(0, 5);
        x.drink(1);
        x.pour(0, 1);
        x.turn(0, 4);
        long before = x.digest();
        Check.refused(x, "image", x::image, 6);
        x.pour(1, 99);
        x.drink(0);
        x.drink(1);
        x.turn(0, 7);
        x.turn(1, 2);
        Check.due("restore", x.restore(), 6);
        Check.due("all is as it was", x.digest(), before);
        Check.inGlass(x, 0, 2, 1);
        Check.inGlass(x, 1, 1, 2);
        Check.drunkFrom(x, 0, 0, 1);
        Check.drunkFrom(x, 1, 1, 1);
        Check.ofAll(x, 0, 5, 2);
        Check.due("turn", x.about(0, 7), 4);
        Check.due("turn", x.about(1, 7), 0);
        Check.due("poured", x.count(1), 6);
        PouredTopmost nine = Check.standing("1/2/3/4/5/6/7/8/9");
        for (int glass = 0; glass < 9; glass++) {
            nine.pour(glass, glass + 2);
            nine.turn(glass, glass);
        }
        nine.drink(8);
        long full = nine.digest();
        nine.image();
        nine.clear();
        for (int glass = 0; glass < 9; glass++) {
            nine.turn(glass, 9 - glass);
        }
        Check.due("of nine", nine.restore(), 54);
        Check.due("all is as it was", nine.digest(), full);
    }

    private static void imageOfTheLatest() {
        Check.says("An IMAGE is kept (one; the latest): how many measures were POURED.");
        PouredTopmost x = Check.standing("2:1/1");
        Check.due("of nothing", x.image(), 0);
        x.pour(0, 1);
        Check.due("of one", x.image(), 1);
        x.pour(0, 1);
        Check.due("a later one", x.image(), 2);
        x.clear();
        Check.due("of the latest", x.restore(), 2);
        Check.inGlass(x, 0, 2, 1);
        x.clear();
        Check.due("of nothing again", x.image(), 0);
        x.pour(0, 1);
        Check.due("of the latest", x.restore(), 0);
        Check.inGlass(x, 0, 0, 1);
    }

    private static void imageIsNoneOfTheRest() {
        Check.says("An IMAGE keeps what is in each GLASS, SPILT, DRUNK, TURNS, POURED.");
        PouredTopmost x = Check.standing("2:1/1");
        x.image();
        x.change(3, 0);
        Check.write(x, "12");
        x.pour(0, 1);
        x.restore();
        int[] due = {2, 0, 0, 2, 1, 1};
        for (int what = 0; what < due.length; what++) {
            Check.due("count " + what, x.count(what), due[what]);
        }
    }

    private static void imageRefused() {
        Check.says("STATE: no TOWER.");
        PouredTopmost x = new PouredTopmost();
        Check.refused(x, "no tower", x::image, Check.STATE);
        Check.due("and none is kept", x.restore(), Check.STATE);
        Check.write(x, "1");
        x.tower();
        Check.due("nor by the tower", x.restore(), Check.STATE);
        Check.due("a tower", x.image(), 0);
    }

    private static void restoreGoesOn() {
        Check.says("It goes on from the IMAGE: how many measures were POURED.");
        PouredTopmost x = Check.standing("2:1/1");
        x.pour(0, 2);
        x.image();
        for (int i = 0; i < 3; i++) {
            Check.due("as often as one likes", x.restore(), 2);
            Check.due("poured from there", x.pour(0, 1), 3);
            Check.inGlass(x, 1, 1, 1);
            x.turn(0, i + 1);
        }
        x.restore();
        Check.due("what is done then is not the image's", x.about(0, 7), 0);
        x.clear();
        Check.due("cleared", x.restore(), 2);
        Check.refused(x, "once more", x::restore, 2);
    }

    private static void restoreNoneKept() {
        Check.says("STATE: none was kept");
        PouredTopmost x = Check.standing("2:1/1");
        x.pour(0, 3);
        Check.refused(x, "none was kept", x::restore, Check.STATE);
        PouredTopmost none = Check.written("1");
        Check.refused(none, "no tower", none::restore, Check.STATE);
    }

    private static void restoreAnotherTower() {
        Check.says("or there is another TOWER since");
        for (String text : new String[] {"2:1/1", "3", "1/1/1"}) {
            PouredTopmost x = Check.standing("2:1/1");
            x.pour(0, 3);
            x.image();
            Check.write(x, text);
            Check.due("not by letters alone", x.restore(), 3);
            x.tower();
            x.pour(0, 1);
            Check.refused(x, "another tower since", x::restore, Check.STATE);
            Check.due("image of this one", x.image(), 1);
            Check.write(x, "2:");
            x.tower();
            x.pour(0, 1);
            Check.due("what is no tower is none since", x.restore(), 1);
        }
    }

    // ---- promise 25

    private static void counts(PouredTopmost x, int... due) {
        for (int what = 0; what < due.length; what++) {
            Check.due("count " + what, x.count(what), due[what]);
        }
    }

    private static void countEach() {
        Check.says("How many: 0 GLASSES, 1 measures POURED, 2 GLASSES that are FULL, 3 letters of "
            + "THE PAGE, 4 how often a TOWER was read, 5 how often change() was done.");
        PouredTopmost x = Check.standing("2:1/1/k3");
        counts(x, 3, 0, 1, 0, 1, 0);
        x.pour(0, 3);
        x.change(1, 0);
        Check.write(x, "1234");
        counts(x, 3, 3, 3, 4, 1, 1);
        x.evening(2, 2);
        counts(x, 3, 7, 3, 4, 1, 1);
        x.pourings(9, 9, 0);
        x.need(0, 0);
        counts(x, 3, 7, 3, 4, 1, 1);
        x.clear();
        counts(x, 3, 0, 1, 4, 1, 1);
    }

    private static void countWithoutATower() {
        Check.says("How many: 0 GLASSES");
        PouredTopmost x = new PouredTopmost();
        counts(x, 0, 0, 0, 0, 0, 0);
        Check.write(x, "1".repeat(70));
        x.tower();
        x.change(1, 0);
        counts(x, 0, 0, 0, 70, 0, 0);
    }

    private static void countOfFull() {
        Check.says("2 GLASSES that are FULL");
        PouredTopmost x = Check.standing("1/2/k3/s3/c1/c2/l1");
        Check.due("what takes nothing", x.count(2), 3);
        x.pour(0, 1);
        Check.due("one more", x.count(2), 4);
        x.pour(1, 1);
        Check.due("a half", x.count(2), 4);
        x.pour(1, 1);
        x.pour(5, 1);
        x.pour(6, 1);
        Check.due("all", x.count(2), 7);
        x.drink(0);
        Check.due("but one", x.count(2), 6);
    }

    private static void countOfTowersAndChanges() {
        Check.says("4 how often a TOWER was read, 5 how often change() was done");
        PouredTopmost x = Check.standing("1/9");
        x.tower();
        Check.write(x, "1:");
        x.tower();
        x.blank();
        x.change(0, 0);
        x.change(1, 2);
        counts(x, 2, 0, 0, 0, 1, 0);
        x.change(1, 0);
        x.change(9, 1);
        Check.write(x, "3");
        x.tower();
        Check.write(x, "3");
        x.tower();
        counts(x, 1, 0, 0, 0, 3, 2);
        x.clear();
        x.image();
        x.restore();
        counts(x, 1, 0, 0, 0, 3, 2);
    }

    private static void countRefused() {
        Check.says("5 how often change() was done. OUTSIDE.");
        PouredTopmost x = Check.standing("2:1/1/k3");
        for (int what : new int[] {Integer.MIN_VALUE, -1, 6, Integer.MAX_VALUE}) {
            Check.refused(x, "what " + what, () -> x.count(what), Check.OUTSIDE);
            Check.due("without a tower", new PouredTopmost().count(what), Check.OUTSIDE);
        }
    }

    // ---- promise 26

    private static void digestWithoutATower() {
        Check.says("with a TOWER NEEDALL of all, CHIPS of as many as were POURED");
        PouredTopmost x = new PouredTopmost();
        long due = Check.hash(0, 1, 0, 1, 0, 0, 0, 0, 0, 0);
        Check.due("empty", x.digest(), due);
        Check.due("it changes nothing", x.digest(), due);
    }

    private static void digestOfThePage() {
        Check.says("letters of THE PAGE; what count() tells for 0 to 5");
        PouredTopmost x = Check.written("1x");
        Check.due("two letters", x.digest(), Check.hash(0, 1, 0, 1, '1', 'x', 0, 0, 0, 2, 0, 0));
        Check.write(x, "~".repeat(68));
        long[] due = new long[80];
        System.arraycopy(new long[] {0, 1, 0, 1, '1', 'x'}, 0, due, 0, 6);
        Arrays.fill(due, 6, 74, '~');
        due[77] = 70;
        Check.due("seventy letters", x.digest(), Check.hash(due));
        x.blank();
        Check.due("none", x.digest(), new PouredTopmost().digest());
    }

    private static void digestOfOneGlass() {
        Check.says("h is 631, then for each of these numbers, in order, 31 times h, and it");
        PouredTopmost x = Check.standing("2");
        Check.due("one glass", x.digest(), Check.hash(
            0, 2, 2, 0, -1, -1, -1, 0, 0, 0, 1, 0, 1,
            0, 1, 0, 1, 2, 512 + 1, 1, 0, 0, 0, 1, 0));
    }

    private static void digestOfATower() {
        Check.says("of each GLASS what about() tells for 0 to 8, what in(), drunk() tell for 0 and 1; "
            + "what all() tells of 0 and 1 for 0 and 1");
        PouredTopmost x = Check.standing("l2:1-/c3");
        x.pour(0, 3);
        x.drink(1);
        x.pour(0, 1);
        x.turn(1, 5);
        x.change(1, 1);
        Check.write(x, ":");
        Check.due("tower", x.digest(), Check.hash(
            3, 2, 2, 2, 1, 9, -1, 0, 1, 2, 1, 0, 1,
            1, 3, 2, 0, -1, -1, -1, 5, 0, 2, 3, 2, 3,
            2, 3, 8, 3, 2, 0, ':', 2, 4, 1, 1, 1, 1));
    }

    private static void digestOfNineGlasses() {
        Check.says("of each GLASS what about() tells for 0 to 8");
        PouredTopmost x = Check.standing("1/1/1/1/1/1/1/1/1");
        long h = 631;
        for (int glass = 0; glass < 9; glass++) {
            for (long number : new long[] {0, 1, 1, 0, -1, -1, -1, 0, 0, 0, 1, 0, 1}) {
                h = 31 * h + number;
            }
        }
        for (long number : new long[] {0, 1, 0, 1, -1, 1023, 9, 0, 0, 0, 1, 0}) {
            h = 31 * h + number;
        }
        Check.due("nine", x.digest(), h);
    }

    private static void digestOfNeed() {
        Check.says("with a TOWER NEEDALL of all");
        PouredTopmost x = Check.standing("3:1-/2");
        x.pour(0, 7);
        x.drink(0);
        Check.due("0 is emptied", x.digest(), Check.hash(
            0, 3, 3, 2, 1, 9, -1, 0, 0, 0, 1, 3, 1,
            0, 2, 2, 0, -1, -1, -1, 0, 1, 2, 1, 0, 1,
            2, 1, 2, 1, 3, 0, 2, 7, 1, 0, 1, 0));
    }

    private static void digestOfChips() {
        Check.says("CHIPS of as many as were POURED");
        PouredTopmost y = Check.standing("2:1/3");
        y.pour(0, 3);
        Check.due("chips", y.digest(), Check.hash(
            0, 2, 2, 1, 1, -1, -1, 0, 1, 2, 1, 0, 1,
            0, 3, 3, 0, -1, -1, -1, 0, 0, 1, 1, 0, 1,
            0, 1, 3, 1, 2, 512 + 2, 2, 3, 1, 0, 1, 0));
    }

    private static void poured(PouredTopmost x, int measures) {
        for (int left = measures; left > 0; left -= 99) {
            x.pour(0, Math.min(left, 99));
        }
    }

    /** The last glass is full by 1000 measures, and lacks an 81st by 999. */
    private static void digestOfManyPoured() {
        Check.says("(999 at most)");
        String text = "1:1--/9:2--/9:3--/9:4--/8";
        long[] shares = {1, 2, 3, 4};
        for (int measures : new int[] {998, 999, 1000, 1001, 9999}) {
            PouredTopmost x = Check.standing(text);
            poured(x, measures);
            long h = 631;
            for (int glass = 0; glass < 5; glass++) {
                long holds = glass == 0 ? 1 : glass == 4 ? 8 : 9;
                boolean last = glass == 4;
                long lacks = last ? Math.max(0, 1000 - measures) : 0;
                long[] numbers = {0, holds, holds, last ? 0 : 3, last ? -1 : shares[glass], last ? -1 : 9,
                    last ? -1 : 9, 0, lacks == 0 ? 1 : 0, lacks == 0 ? holds : 8 * 81 - lacks,
                    lacks == 0 ? 1 : 81, 0, 1};
                for (long number : numbers) {
                    h = 31 * h + number;
                }
            }
            long lacks = Math.max(0, 1000 - measures);
            // In the glasses: 36, less an 81st for each measure that lacks.
            long inAll = 36 * 81 - lacks;
            long spilt = measures * 81L - inAll;
            long common = gcd(spilt, 81);
            long inCommon = gcd(inAll, 81);
            int full = lacks == 0 ? 5 : 4;
            for (long number : new long[] {spilt / common, 81 / common, inAll / inCommon, 81 / inCommon,
                lacks, measures <= 999 ? 512 : 0, 5, measures, full, 0, 1, 0}) {
                h = 31 * h + number;
            }
            Check.due(measures + " poured", x.digest(), h);
        }
    }

    private static long gcd(long one, long other) {
        return other == 0 ? one : gcd(other, one % other);
    }

    private static void digestWraps() {
        Check.says("31 times h, and it (as longs, wrapping)");
        PouredTopmost x = new PouredTopmost();
        boolean negative = false;
        long wide = 0;
        for (int i = 0; i < 14; i++) {
            x.letters(Check.word("~"));
            negative |= x.digest() < 0;
            wide |= x.digest();
        }
        Check.isTrue("below 0, too", negative);
        Check.isTrue("no int", wide >>> 32 != 0);
    }

    /** The last of 512 calls answers as the first. */
    private static void manyCalls() {
        Check.says("An object is used for at most 512 calls after it has been made");
        PouredTopmost x = new PouredTopmost();
        Check.due("the first", x.letters(Check.word("1:1/9")), 5);
        Check.due("the second", x.tower(), 2);
        for (int calls = 3; calls < 512; calls++) {
            Check.due("poured so far", x.pour(calls % 2, 1), calls - 2);
        }
        Check.due("the 512th", x.all(0, 0), 499);
    }
}

import java.util.ArrayList;
import java.util.List;

/**
 * Every call with its least and greatest numbers, those beside them, and the ends of int, one with
 * another, on objects of all sorts: as the model answers, and leaving what it leaves.
 */
public final class GridTest {
    private static final int LEAST = Integer.MIN_VALUE;
    private static final int GREATEST = Integer.MAX_VALUE;
    private static final String[] SORTS = {"new", "page", "no room", "one", "stuck", "two", "nine",
        "filled", "9998", "9999", "29 changes", "30 changes"};

    private static final int[] GLASSES = {LEAST, -1, 0, 1, 2, 7, 8, 9, 10, GREATEST};
    private static final int[] PARTS = {LEAST, -1, 0, 1, 2, GREATEST};
    private static final int[] WHATS = {LEAST, -1, 0, 1, 2, 3, 4, 5, 6, 7, 8, 9, 10, GREATEST};
    private static final int[] MEASURES = {LEAST, -1, 0, 1, 2, 9, 98, 99, 100, GREATEST};
    private static final int[] SETS = {LEAST, -1, 0, 1, 2, 3, 4, 255, 256, 257, 384, 510, 511, 512, 513,
        1023, 1 << 30, GREATEST};
    private static final int[] HOURS = {LEAST, -1, 0, 1, 2, 9, 10, 23, 24, 25, GREATEST};
    private static final int[] MANY = {LEAST, -1, 0, 1, 2, 9, 998, 999, 1000, GREATEST};
    private static final int[] TIMES = {LEAST, -1, 0, 1, 59, 60, 61, GREATEST};
    private static final int[] SEEDS = {LEAST, -1, 0, 1, 12345, GREATEST - 1, GREATEST};
    private static final long[] WORDS = {0, 1, 126, 127, 128, 255, 256, 0x3131L, 0x310031L,
        0x3131313131313131L, 0x7E7E7E7E7E7E7E7EL, 0x0031313131313131L, Long.MAX_VALUE, Long.MIN_VALUE, -1};

    private interface Call {
        long on(PouredTopmost x);
    }

    private interface Due {
        long on(Model model);
    }

    private record Both(String told, Call call, Due due) {
    }

    private final List<Both> telling = new ArrayList<>();
    private final List<Both> changing = new ArrayList<>();

    public static void main(String[] args) {
        GridTest test = new GridTest();
        test.fillIn();
        for (String sort : SORTS) {
            test.tellOn(sort);
            test.changeOn(sort);
        }
        Check.end();
    }

    private void tells(String told, Call call, Due due) {
        telling.add(new Both(told, call, due));
    }

    private void changes(String told, Call call, Due due) {
        changing.add(new Both(told, call, due));
    }

    private void fillIn() {
        for (int a : GLASSES) {
            for (int b : WHATS) {
                tells("about " + a + " " + b, x -> x.about(a, b), m -> m.about(a, b));
                tells("as " + a + " " + b, x -> x.as(a, b), m -> m.as(a, b));
                tells("need " + a + " " + b, x -> x.need(a, b), m -> m.need(a, b));
                changes("turn " + a + " " + b, x -> x.turn(a, b), m -> m.turn(a, b));
            }
            for (int b : PARTS) {
                tells("in " + a + " " + b, x -> x.in(a, b), m -> m.in(a, b));
                tells("drunk " + a + " " + b, x -> x.drunk(a, b), m -> m.drunk(a, b));
                for (int c : MEASURES) {
                    tells("costs " + a + " " + c + " " + b, x -> x.costs(a, c, b), m -> m.costs(a, c, b));
                }
            }
            for (int b : MEASURES) {
                changes("pour " + a + " " + b, x -> x.pour(a, b), m -> m.pour(a, b));
            }
            changes("drink " + a, x -> x.drink(a), m -> m.drink(a));
        }
        fillInSetsAndNumbers();
        fillInPourings();
        fillInTheRest();
    }

    private void fillInSetsAndNumbers() {
        for (int a : SETS) {
            tells("needAll " + a, x -> x.needAll(a), m -> m.needAll(a));
            tells("alike " + a, x -> x.alike(a), m -> m.alike(a));
        }
        for (int a : WHATS) {
            tells("count " + a, x -> x.count(a), m -> m.count(a));
        }
        for (int a : PARTS) {
            for (int b : PARTS) {
                tells("all " + a + " " + b, x -> x.all(a, b), m -> m.all(a, b));
            }
            for (int b : MEASURES) {
                changes("change " + b + " " + a, x -> x.change(b, a), m -> m.change(b, a));
            }
        }
        for (int a : MANY) {
            tells("chips " + a, x -> x.chips(a), m -> m.chips(a));
        }
        for (int a : HOURS) {
            for (int b : HOURS) {
                changes("evening " + a + " " + b, x -> x.evening(a, b), m -> m.evening(a, b));
            }
        }
    }

    private void fillInPourings() {
        for (int a : TIMES) {
            for (int b : SEEDS) {
                for (int c = -1; c <= 3; c++) {
                    int what = c;
                    tells("pourings " + a + " " + b + " " + c, x -> x.pourings(a, b, what),
                        m -> m.pourings(a, b, what));
                }
            }
        }
    }

    private void fillInTheRest() {
        for (long w : WORDS) {
            changes("letters " + w, x -> x.letters(w), m -> m.letters(w));
        }
        tells("fault", PouredTopmost::fault, Model::fault);
        tells("digest", PouredTopmost::digest, Model::digest);
        changes("blank", PouredTopmost::blank, Model::blank);
        changes("tower", PouredTopmost::tower, Model::tower);
        changes("clear", PouredTopmost::clear, Model::clear);
        changes("image", PouredTopmost::image, Model::image);
        changes("restore", PouredTopmost::restore, Model::restore);
    }

    /** What only tells is asked of one object, up to the calls that it is good for. */
    private void tellOn(String sort) {
        Pair pair = Pair.of(sort);
        int calls = 0;
        for (Both both : telling) {
            if (calls == 250) {
                Check.due(sort + ": nothing is changed", pair.x.digest(), pair.model.digest());
                pair = Pair.of(sort);
                calls = 0;
            }
            Check.due(sort + ": " + both.told(), both.call().on(pair.x), both.due().on(pair.model));
            calls++;
        }
        Check.due(sort + ": nothing is changed", pair.x.digest(), pair.model.digest());
    }

    private void changeOn(String sort) {
        for (Both both : changing) {
            Pair pair = Pair.of(sort);
            String told = sort + ": " + both.told();
            Check.due(told, both.call().on(pair.x), both.due().on(pair.model));
            Check.due(told + ", what is left", pair.x.digest(), pair.model.digest());
            Check.due(told + ", restore", pair.x.restore(), pair.model.restore());
            Check.due(told + ", what was kept", pair.x.digest(), pair.model.digest());
        }
    }

    /** The class and the model, brought to the same. */
    private static final class Pair {
        final PouredTopmost x = new PouredTopmost();
        final Model model = new Model();

        static Pair of(String sort) {
            Pair pair = new Pair();
            switch (sort) {
                case "new" -> { }
                case "page" -> pair.write("2:1/3");
                case "no room" -> pair.stand("3:1/2").write("1".repeat(70));
                case "one" -> pair.stand("1");
                case "stuck" -> pair.stand("s9:-").write("1:");
                case "two" -> pair.stand("1:1-/c2");
                case "nine" -> pair.stand("2:12/l3:34/c2:4-/s1:567/4:7-8/k3:67/1:8/2:88-/9");
                case "filled" -> pair.stand("l2:121/c3:3-/s1:3/4").use();
                case "9998" -> pair.stand("2:12/1/k3").pourMost(98);
                case "9999" -> pair.stand("2:12/1/k3").pourMost(99);
                case "29 changes" -> pair.stand("1/2/9").changeTimes(29);
                default -> pair.stand("1/2/9").changeTimes(30);
            }
            return pair;
        }

        Pair write(String text) {
            Check.write(x, text);
            for (int from = 0; from < text.length(); from += 8) {
                model.letters(Check.word(text.substring(from, Math.min(text.length(), from + 8))));
            }
            return this;
        }

        Pair stand(String text) {
            write(text);
            Check.due("tower " + text, x.tower(), model.tower());
            return this;
        }

        Pair pour(int glass, int measures) {
            Check.due("pour", x.pour(glass, measures), model.pour(glass, measures));
            return this;
        }

        void use() {
            pour(0, 7);
            x.drink(1);
            model.drink(1);
            x.turn(0, 2);
            model.turn(0, 2);
            x.image();
            model.image();
            pour(3, 1).pour(0, 2);
            x.turn(1, 3);
            model.turn(1, 3);
        }

        void pourMost(int last) {
            for (int i = 0; i < 100; i++) {
                pour(i % 2, 99);
            }
            pour(0, last);
        }

        void changeTimes(int times) {
            for (int i = 0; i < times; i++) {
                Check.due("change", x.change(i + 1, i % 2), model.change(i + 1, i % 2));
            }
        }
    }
}

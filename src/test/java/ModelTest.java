import java.util.Random;

/** Random runs of calls, the same ones each time, on the class and on the model. */
public final class ModelTest {
    private static final int RUNS = 300;
    /** What comes with the last of them stays within the 512 that an object is good for. */
    private static final int CALLS = 490;
    private static final String PAGE_LETTERS = "ckls123456789:/-0x ";

    private final Random random;
    private final PouredTopmost x = new PouredTopmost();
    private final Model model = new Model();
    private final StringBuilder told = new StringBuilder();
    private int calls = 0;
    private boolean wrong = false;

    private ModelTest(long seed) {
        random = new Random(seed);
    }

    public static void main(String[] args) {
        int runs = args.length > 0 ? Integer.parseInt(args[0]) : RUNS;
        int first = args.length > 1 ? Integer.parseInt(args[1]) : 0;
        for (int run = first; run < first + runs; run++) {
            ModelTest test = new ModelTest(run);
            test.run();
            Check.isTrue("run " + run + " is as the model's:\n" + test.told, !test.wrong);
            if (test.wrong) {
                break;
            }
        }
        Check.end();
    }

    private void run() {
        while (calls < CALLS && !wrong) {
            if (random.nextInt(40) == 0 || calls == 0) {
                same("blank", x.blank(), model.blank());
                String text = someTower();
                for (int from = 0; from < text.length(); from += 8) {
                    long w = Check.word(text.substring(from, Math.min(text.length(), from + 8)));
                    same("letters " + w, x.letters(w), model.letters(w));
                }
                same("fault of " + text, x.fault(), model.fault());
                same("tower " + text, x.tower(), model.tower());
            }
            oneCall();
        }
        same("digest", x.digest(), model.digest());
    }

    private void same(String call, long got, long due) {
        calls++;
        if (!wrong) {
            told.append(call).append(" = ").append(got).append('\n');
            if (got != due) {
                wrong = true;
                told.append("due is ").append(due);
            }
        }
    }

    /** A tower mostly; now and then with a letter that is not right. */
    private String someTower() {
        StringBuilder text = new StringBuilder();
        int howMany = 1 + random.nextInt(9);
        int kinds = random.nextInt(3);
        int most = random.nextBoolean() ? 9 : 2;
        for (int number = 0; number < howMany; number++) {
            text.append(number == 0 ? "" : "/");
            if (random.nextInt(3) < kinds) {
                text.append("ckls".charAt(random.nextInt(4)));
            }
            text.append(1 + random.nextInt(most));
            int shares = Math.max(0, random.nextInt(6) - 2);
            for (int share = 0; share < shares; share++) {
                text.append(share == 0 ? ":" : "");
                boolean cloth = number == howMany - 1 || random.nextInt(6) == 0;
                text.append(cloth ? "-" : "" + (number + 1 + random.nextInt(howMany - number - 1)));
            }
        }
        if (random.nextInt(4) == 0) {
            char letter = PAGE_LETTERS.charAt(random.nextInt(PAGE_LETTERS.length()));
            text.setCharAt(random.nextInt(text.length()), letter);
        }
        return text.toString();
    }

    /** A number of 0 to greatest, mostly. */
    private int some(int greatest) {
        switch (random.nextInt(24)) {
            case 0: return -1;
            case 1: return greatest + 1;
            case 2: return random.nextBoolean() ? Integer.MAX_VALUE : Integer.MIN_VALUE;
            case 3: return greatest;
            default: return random.nextInt(greatest + 1);
        }
    }

    private int glass() {
        return some(Math.max(0, model.count(0) - 1));
    }

    private int set() {
        return some((1 << model.count(0)) - 1);
    }

    private void oneCall() {
        int a = glass();
        switch (random.nextInt(24)) {
            case 0, 1 -> pour(a, some(random.nextBoolean() ? 5 : 99));
            case 2, 3 -> amounts(a, some(1));
            case 4 -> about(a, some(8), some(4));
            case 5 -> same("drink " + a, x.drink(a), model.drink(a));
            case 6 -> page();
            case 7 -> need(a, glass());
            case 8 -> needAll(set());
            case 9 -> change(some(random.nextBoolean() ? 9 : 99), some(1));
            case 10, 11 -> costs(a, some(random.nextBoolean() ? 9 : 99), some(1));
            case 12, 13 -> turn(a, some(9));
            case 14, 15 -> evening(some(24), some(9));
            case 16 -> chips(random.nextBoolean() ? Math.min(999, model.count(1)) : some(999));
            case 17 -> alike(set());
            case 18, 19 -> pourings(some(60), random.nextInt(), some(2));
            case 20 -> same("image", x.image(), model.image());
            case 21 -> same("restore", x.restore(), model.restore());
            case 22 -> clearOrCount(some(5));
            default -> same("digest", x.digest(), model.digest());
        }
    }

    private void pour(int glass, int measures) {
        same("pour " + glass + " " + measures, x.pour(glass, measures), model.pour(glass, measures));
    }

    private void amounts(int glass, int part) {
        same("in " + glass + " " + part, x.in(glass, part), model.in(glass, part));
        same("drunk " + glass + " " + part, x.drunk(glass, part), model.drunk(glass, part));
        int what = some(1);
        same("all " + what + " " + part, x.all(what, part), model.all(what, part));
    }

    private void about(int glass, int what, int kind) {
        same("about " + glass + " " + what, x.about(glass, what), model.about(glass, what));
        same("as " + glass + " " + kind, x.as(glass, kind), model.as(glass, kind));
    }

    /** Letters that are no tower, or none at all. */
    private void page() {
        long w = random.nextInt(4) == 0 ? random.nextLong() : random.nextInt(127);
        same("letters " + w, x.letters(w), model.letters(w));
        same("fault", x.fault(), model.fault());
        if (random.nextInt(8) == 0) {
            same("blank", x.blank(), model.blank());
        }
    }

    private void need(int of, int from) {
        same("need " + of + " " + from, x.need(of, from), model.need(of, from));
    }

    private void needAll(int set) {
        same("needAll " + set, x.needAll(set), model.needAll(set));
    }

    private void change(int measures, int what) {
        same("change " + measures + " " + what, x.change(measures, what),
            model.change(measures, what));
    }

    private void costs(int glass, int measures, int part) {
        same("costs " + glass + " " + measures + " " + part, x.costs(glass, measures, part),
            model.costs(glass, measures, part));
    }

    private void turn(int glass, int v) {
        same("turn " + glass + " " + v, x.turn(glass, v), model.turn(glass, v));
    }

    private void evening(int hours, int measures) {
        same("evening " + hours + " " + measures, x.evening(hours, measures),
            model.evening(hours, measures));
    }

    private void chips(int measures) {
        same("chips " + measures, x.chips(measures), model.chips(measures));
    }

    private void alike(int set) {
        same("alike " + set, x.alike(set), model.alike(set));
    }

    private void pourings(int times, int seed, int what) {
        same("pourings " + times + " " + seed + " " + what, x.pourings(times, seed, what),
            model.pourings(times, seed, what));
    }

    private void clearOrCount(int what) {
        if (random.nextBoolean()) {
            same("clear", x.clear(), model.clear());
        }
        same("count " + what, x.count(what), model.count(what));
    }
}

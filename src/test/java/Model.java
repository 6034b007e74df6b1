import java.util.ArrayList;
import java.util.List;
import java.util.regex.Matcher;
import java.util.regex.Pattern;

/**
 * The document once more, in the plainest words that Java's library has: fractions, lists,
 * patterns, and every number tried from the least on. ModelTest holds the class against it.
 */
final class Model {
    private static final Pattern TOWER = towerPattern();

    /** One glass as it is told; what it runs over into is the place's. */
    private static final class Glass {
        int kind;
        int holds;
        boolean takesNothing;
        List<Integer> shares = new ArrayList<>();

        int takes() {
            if (takesNothing || kind == 2 || kind == 4) {
                return 0;
            }
            return kind == 1 ? holds - 1 : holds;
        }

        Glass copy() {
            Glass glass = new Glass();
            glass.kind = kind;
            glass.holds = holds;
            glass.takesNothing = takesNothing;
            glass.shares = shares;
            return glass;
        }
    }

    /** What an image keeps. */
    private static final class Filled {
        List<Ratio> in = new ArrayList<>();
        List<Ratio> drunk = new ArrayList<>();
        List<Integer> turns = new ArrayList<>();
        Ratio spilt = Ratio.ZERO;
        int poured;

        Filled copy() {
            Filled filled = new Filled();
            filled.in.addAll(in);
            filled.drunk.addAll(drunk);
            filled.turns.addAll(turns);
            filled.spilt = spilt;
            filled.poured = poured;
            return filled;
        }
    }

    private String page = "";
    private List<Glass> glasses = new ArrayList<>();
    private Filled now = new Filled();
    private Filled kept;
    private int towers;
    private int changes;

    private static Pattern towerPattern() {
        String text = "";
        for (int number = 8; number >= 0; number--) {
            StringBuilder into = new StringBuilder("-");
            for (int greater = number + 1; greater <= 8; greater++) {
                into.append(greater);
            }
            String glass = "[ckls]?[1-9](?::[" + into + "]{1,3})?";
            text = number == 8 ? glass : glass + "(?:/" + text + ")?";
        }
        return Pattern.compile(text);
    }

    private boolean has(int glass) {
        return glass >= 0 && glass < glasses.size();
    }

    private boolean noTower() {
        return glasses.isEmpty();
    }

    private static boolean between(int least, int number, int greatest) {
        return least <= number && number <= greatest;
    }

    int letters(long w) {
        StringBuilder more = new StringBuilder();
        boolean ended = false;
        for (int i = 0; i < 8; i++) {
            int code = (int) (w >>> 8 * i) & 255;
            if (code > 126 || (ended && code != 0)) {
                return -102;
            }
            ended |= code == 0;
            if (!ended) {
                more.append((char) code);
            }
        }
        if (page.length() + more.length() > 70) {
            return -104;
        }
        page += more;
        return page.length();
    }

    int blank() {
        int had = page.length();
        page = "";
        return had;
    }

    int fault() {
        for (int length = 1; length <= page.length(); length++) {
            Matcher matcher = TOWER.matcher(page.substring(0, length));
            if (!matcher.matches() && !matcher.hitEnd()) {
                return length - 1;
            }
        }
        return page.length();
    }

    int tower() {
        if (!TOWER.matcher(page).matches()) {
            return -103;
        }
        List<Glass> read = new ArrayList<>();
        String[] texts = page.split("/");
        for (String text : texts) {
            Glass glass = new Glass();
            String[] halves = text.split(":");
            glass.kind = halves[0].length() == 1 ? 0 : " ckls".indexOf(halves[0].charAt(0));
            glass.holds = halves[0].charAt(halves[0].length() - 1) - '0';
            String into = halves.length == 1 ? "" : halves[1];
            for (char share : into.toCharArray()) {
                int number = share == '-' ? 9 : share - '0';
                if (number != 9 && number >= texts.length) {
                    return -103;
                }
                glass.shares.add(number);
            }
            read.add(glass);
        }
        glasses = read;
        now = emptyOf(0);
        for (int i = 0; i < read.size(); i++) {
            now.turns.add(0);
        }
        kept = null;
        page = "";
        towers++;
        return read.size();
    }

    private Filled emptyOf(int poured) {
        Filled filled = new Filled();
        for (int i = 0; i < glasses.size(); i++) {
            filled.in.add(Ratio.ZERO);
            filled.drunk.add(Ratio.ZERO);
        }
        filled.poured = poured;
        return filled;
    }

    int about(int glass, int what) {
        if (!has(glass)) {
            return -101;
        }
        Glass g = glasses.get(glass);
        return switch (what) {
            case 0 -> g.kind;
            case 1 -> g.holds;
            case 2 -> g.takes();
            case 3 -> g.shares.size();
            case 4, 5, 6 -> what - 4 < g.shares.size() ? g.shares.get(what - 4) : -1;
            case 7 -> now.turns.get(glass);
            case 8 -> isFull(now, glass) ? 1 : 0;
            default -> -102;
        };
    }

    private boolean isFull(Filled filled, int glass) {
        return filled.in.get(glass).equals(Ratio.of(glasses.get(glass).takes()));
    }

    int as(int glass, int kind) {
        if (!has(glass)) {
            return -101;
        }
        if (!between(0, kind, 4)) {
            return -102;
        }
        List<List<Integer>> is = List.of(List.of(0), List.of(0, 1), List.of(0, 2),
            List.of(0, 3), List.of(0, 2, 4));
        return is.get(glasses.get(glass).kind).contains(kind) ? glass : -1;
    }

    private static void runOver(List<Glass> glasses, Filled filled) {
        for (int i = 0; i < glasses.size(); i++) {
            Glass glass = glasses.get(i);
            Ratio takes = Ratio.of(glass.takes());
            Ratio over = filled.in.get(i).minus(takes);
            if (over.compareTo(Ratio.ZERO) <= 0) {
                continue;
            }
            filled.in.set(i, takes);
            int howMany = glass.shares.size();
            if (howMany == 0) {
                filled.spilt = filled.spilt.plus(over);
            }
            for (int share = 0; share < howMany; share++) {
                boolean leaning = glass.kind == 3;
                Ratio comes = over.times(leaning && share == 0 ? 2 : 1, leaning ? howMany + 1 : howMany);
                int to = glass.shares.get(share);
                if (to == 9) {
                    filled.spilt = filled.spilt.plus(comes);
                } else {
                    filled.in.set(to, filled.in.get(to).plus(comes));
                }
            }
        }
    }

    private static void pourInto(List<Glass> glasses, Filled filled, int glass, int measures) {
        filled.in.set(glass, filled.in.get(glass).plus(Ratio.of(measures)));
        filled.poured += measures;
        runOver(glasses, filled);
    }

    int pour(int glass, int measures) {
        if (!has(glass)) {
            return -101;
        }
        if (!between(1, measures, 99)) {
            return -102;
        }
        if (now.poured + measures > 9999) {
            return -103;
        }
        pourInto(glasses, now, glass, measures);
        return now.poured;
    }

    private static Ratio sum(List<Ratio> ratios) {
        return ratios.stream().reduce(Ratio.ZERO, Ratio::plus);
    }

    long in(int glass, int part) {
        return !has(glass) ? -101 : !between(0, part, 1) ? -102 : now.in.get(glass).part(part);
    }

    long all(int what, int part) {
        if (!between(0, what, 1) || !between(0, part, 1)) {
            return -102;
        }
        return (what == 0 ? now.spilt : sum(now.in)).part(part);
    }

    private static boolean empty(Filled filled, int glass) {
        Ratio was = filled.in.get(glass);
        filled.in.set(glass, Ratio.ZERO);
        filled.drunk.set(glass, filled.drunk.get(glass).plus(was));
        return !was.isZero();
    }

    int drink(int glass) {
        if (!has(glass)) {
            return -101;
        }
        return glasses.get(glass).kind == 4 ? -103 : empty(now, glass) ? 1 : 0;
    }

    long drunk(int glass, int part) {
        return !has(glass) ? -101 : !between(0, part, 1) ? -102 : now.drunk.get(glass).part(part);
    }

    int clear() {
        int poured = now.poured;
        List<Integer> turns = now.turns;
        now = emptyOf(0);
        now.turns = turns;
        return poured;
    }

    private int least(int set, int from) {
        Filled filled = now.copy();
        for (int measures = 0; measures <= 999; measures++) {
            boolean full = true;
            for (int i = 0; i < glasses.size(); i++) {
                full &= (set & 1 << i) == 0 || isFull(filled, i);
            }
            if (full) {
                return measures;
            }
            pourInto(glasses, filled, from, 1);
        }
        return -1;
    }

    int need(int of, int from) {
        return !has(of) || !has(from) ? -101 : least(1 << of, from);
    }

    int needAll(int set) {
        return noTower() ? -103 : !isSet(set) ? -102 : least(set, 0);
    }

    private boolean isSet(int set) {
        return between(0, set, (1 << glasses.size()) - 1);
    }

    private List<Glass> copyOfGlasses() {
        List<Glass> copies = new ArrayList<>();
        for (Glass glass : glasses) {
            copies.add(glass.copy());
        }
        return copies;
    }

    private Ratio spiltOn(List<Glass> changed, int measures) {
        Filled filled = now.copy();
        filled.spilt = Ratio.ZERO;
        runOver(changed, filled);
        pourInto(changed, filled, 0, measures);
        return filled.spilt;
    }

    int change(int measures, int what) {
        if (noTower()) {
            return -103;
        }
        if (!between(1, measures, 99) || !between(0, what, 1)) {
            return -102;
        }
        if (changes == 30) {
            return -103;
        }
        changes++;
        Ratio least = spiltOn(glasses, measures);
        int answer = -1;
        for (int a = 0; a < glasses.size(); a++) {
            for (int b = a + 1; b < glasses.size(); b++) {
                List<Glass> changed = copyOfGlasses();
                changed.set(a, glasses.get(b).copy());
                changed.set(b, glasses.get(a).copy());
                changed.get(a).shares = glasses.get(a).shares;
                changed.get(b).shares = glasses.get(b).shares;
                Ratio spilt = spiltOn(changed, measures);
                if (spilt.compareTo(least) < 0) {
                    least = spilt;
                    answer = what == 0 ? a : b;
                }
            }
        }
        return answer;
    }

    long costs(int glass, int measures, int part) {
        if (!has(glass)) {
            return -101;
        }
        if (!between(1, measures, 99) || !between(0, part, 1)) {
            return -102;
        }
        Filled with = emptyOf(0);
        pourInto(glasses, with, 0, measures);
        List<Glass> changed = copyOfGlasses();
        changed.get(glass).takesNothing = true;
        Filled without = emptyOf(0);
        pourInto(changed, without, 0, measures);
        Ratio others = sum(with.in).minus(with.in.get(glass));
        return sum(without.in).minus(others).part(part);
    }

    int turn(int glass, int v) {
        if (!has(glass)) {
            return -101;
        }
        if (!between(0, v, 9)) {
            return -102;
        }
        return glasses.get(glass).kind == 4 && v != 0 ? -103 : now.turns.set(glass, v);
    }

    int evening(int hours, int measures) {
        if (noTower()) {
            return -103;
        }
        if (!between(1, hours, 24) || !between(1, measures, 9)) {
            return -102;
        }
        if (now.poured + hours * measures > 9999) {
            return -103;
        }
        for (int hour = 1; hour <= hours; hour++) {
            pourInto(glasses, now, 0, measures);
            for (int i = 0; i < glasses.size(); i++) {
                if (now.turns.get(i) != 0 && hour % now.turns.get(i) == 0) {
                    empty(now, i);
                }
            }
        }
        return now.poured;
    }

    int chips(int measures) {
        if (noTower()) {
            return -103;
        }
        if (!between(0, measures, 999)) {
            return -102;
        }
        int bits = leaves(glasses, measures) ? 512 : 0;
        for (int i = 0; i < glasses.size(); i++) {
            if (glasses.get(i).kind == 0) {
                List<Glass> changed = copyOfGlasses();
                changed.get(i).kind = 1;
                bits |= leaves(changed, measures) ? 1 << i : 0;
            }
        }
        return bits;
    }

    private boolean leaves(List<Glass> changed, int measures) {
        Filled filled = emptyOf(0);
        pourInto(changed, filled, 0, measures);
        return filled.in.equals(now.in);
    }

    int alike(int set) {
        if (noTower()) {
            return -103;
        }
        if (!isSet(set) || Integer.bitCount(set) < 2) {
            return -102;
        }
        Filled filled = emptyOf(0);
        for (int measures = 1; measures <= 999; measures++) {
            pourInto(glasses, filled, 0, 1);
            List<Ratio> have = new ArrayList<>();
            for (int i = 0; i < glasses.size(); i++) {
                if ((set & 1 << i) != 0) {
                    have.add(filled.in.get(i));
                }
            }
            if (!have.get(0).isZero() && have.stream().distinct().count() == 1) {
                return measures;
            }
        }
        return -1;
    }

    private long seed;

    private int draw(int howMany) {
        seed = (1103515245L * seed + 12345L) % 2147483648L;
        return (int) (seed / 65536 % howMany);
    }

    int pourings(int times, int first, int what) {
        if (noTower()) {
            return -103;
        }
        if (!between(1, times, 60) || first < 0 || !between(0, what, 2)) {
            return -102;
        }
        Filled filled = now.copy();
        seed = first;
        for (int i = 0; i < times; i++) {
            pourInto(glasses, filled, draw(glasses.size()), 1);
            if (draw(4) == 0) {
                empty(filled, draw(glasses.size()));
            }
        }
        if (what == 2) {
            return (int) seed;
        }
        return what == 0 ? howManyFull(filled) : (int) filled.in.stream().filter(Ratio::isZero).count();
    }

    private int howManyFull(Filled filled) {
        int full = 0;
        for (int i = 0; i < glasses.size(); i++) {
            full += isFull(filled, i) ? 1 : 0;
        }
        return full;
    }

    int image() {
        if (noTower()) {
            return -103;
        }
        kept = now.copy();
        return now.poured;
    }

    int restore() {
        if (kept == null) {
            return -103;
        }
        now = kept.copy();
        return now.poured;
    }

    int count(int what) {
        return switch (what) {
            case 0 -> glasses.size();
            case 1 -> now.poured;
            case 2 -> howManyFull(now);
            case 3 -> page.length();
            case 4 -> towers;
            case 5 -> changes;
            default -> -102;
        };
    }

    long digest() {
        List<Long> numbers = new ArrayList<>();
        for (int glass = 0; glass < glasses.size(); glass++) {
            for (int what = 0; what <= 8; what++) {
                numbers.add((long) about(glass, what));
            }
            numbers.addAll(List.of(in(glass, 0), in(glass, 1), drunk(glass, 0), drunk(glass, 1)));
        }
        numbers.addAll(List.of(all(0, 0), all(0, 1), all(1, 0), all(1, 1)));
        if (!noTower()) {
            numbers.add((long) needAll((1 << glasses.size()) - 1));
            numbers.add((long) chips(Math.min(now.poured, 999)));
        }
        page.chars().forEach(letter -> numbers.add((long) letter));
        for (int what = 0; what <= 5; what++) {
            numbers.add((long) count(what));
        }
        long h = 631;
        for (long number : numbers) {
            h = 31 * h + number;
        }
        return h;
    }
}

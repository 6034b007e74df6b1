/** Promises 1 to 7: the tower. */
public final class TowerTest {
    public static void main(String[] args) {
        newObject();
        Check.end();
    }
    private static void newObject() {
        PouredTopmost x = new PouredTopmost();
        Check.due("count(0)", x.count(0), 0);
    }
}

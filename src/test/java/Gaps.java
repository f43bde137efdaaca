import java.lang.reflect.Field;

/**
 * Takes CHANGES from a HAND. No call does that: a HAND is given CHANGES by STAMPS, so that it has what they need. This
 * is how the document's words on CHANGES that WAIT are tried all the same.
 */
final class Gaps {
    private Gaps() { }

    static void takeAway(BookHouse x, int hand, int... changes) {
        try {
            Field sets = BookHouse.class.getDeclaredField("has");
            sets.setAccessible(true);
            long[] has = (long[]) sets.get(x);
            for (int c : changes) has[hand] &= ~(1L << c);
        } catch (ReflectiveOperationException missing) {
            throw new IllegalStateException("the sets of HANDS are held in another way now", missing);
        }
    }
}

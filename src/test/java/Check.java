import java.util.HashMap;
import java.util.Map;
import java.util.function.Consumer;

/** One case after the other: prints 'PASS name' or, with what was wrong, 'FAIL name'. */
final class Check {
    static final int UNKNOWN = -1, OUTSIDE = -2, STATE = -3, FULL = -4, NO = -5, NONE = -6, LOST = -100;

    private static int failed = 0;
    private int wrong = 0;

    /** Each case has an object of its own. */
    static void that(String name, Consumer<Case> calls) {
        Check check = new Check();
        try {
            calls.accept(new Case(check));
        } catch (RuntimeException thrown) {
            check.wrong++;
            System.out.println("  thrown: " + thrown);
        }
        if (check.wrong > 0) failed++;
        System.out.println((check.wrong == 0 ? "PASS " : "FAIL ") + name);
    }

    static void end() {
        if (failed > 0) System.exit(1);
    }

    /** What one case works with. */
    static final class Case {
        final BookHouse x = new BookHouse();
        private final Check check;
        // by the PART; asking the house would take too many of the 512 calls
        private final Map<Integer, Integer> lastPut = new HashMap<>();
        private int calls = 0;

        private Case(Check check) {
            this.check = check;
        }

        void due(long want, long got) {
            calls++;
            if (got != want) wrong("answered " + got + ", due is " + want);
        }

        void wrong(String what) {
            check.wrong++;
            System.out.println("  " + lineOfTheTest() + ", check " + calls + ": " + what);
        }

        private static String lineOfTheTest() {
            for (StackTraceElement at : new Throwable().getStackTrace()) {
                if (at.getClassName().endsWith("Test")) return at.getFileName() + " line " + at.getLineNumber();
            }
            return "no test's line";
        }

        void due(boolean so) {
            due(1, so ? 1 : 0);
        }

        /** Puts these WORDS on a HAND's PAD. */
        void pad(int hand, int... row) {
            for (int w : row) x.word(hand, w);
        }

        /** A PART, SENTENCE or PICTURE behind the one that was put there last. */
        int part(int hand) {
            return part(hand, -1);
        }

        int part(int hand, int under) {
            return putLast(hand, 0, under, 1);
        }

        int sentence(int hand, int under, int... row) {
            int p = putLast(hand, 1, under, 1);
            if (row.length > 0) say(hand, p, row);
            return p;
        }

        int picture(int hand, int under, int high) {
            return putLast(hand, 2, under, high);
        }

        int say(int hand, int p, int... row) {
            pad(hand, row);
            return x.words(hand, p);
        }

        /** The PIECE that was put last into a PART, and, if it was not moved since, is the last one there. */
        int lastIn(int hand, int under) {
            int last = lastPut.getOrDefault(under, -1);
            return x.piece(hand, last, 0) == 1 ? last : -1;
        }

        private int putLast(int hand, int sort, int under, int high) {
            int p = x.put(hand, sort, under, lastIn(hand, under), high);
            lastPut.put(under, p);
            return p;
        }

        /** The WORDS of a SENTENCE are these. */
        void dueWords(int source, int p, int... row) {
            due(row.length, x.piece(source, p, 6));
            for (int i = 0; i < row.length; i++) due(row[i], x.at(source, p, i, 0));
            due(LOST + UNKNOWN, x.at(source, p, row.length, 0));
        }

        /** The WORDS of a SENTENCE were put by these CHANGES. */
        void dueWho(int source, int p, int... changes) {
            for (int i = 0; i < changes.length; i++) due(changes[i], x.at(source, p, i, 1));
            due(LOST + UNKNOWN, x.at(source, p, changes.length, 1));
        }

        /** The PIECES that are SEEN are these. */
        void dueSeen(int source, int... pieces) {
            due(pieces.length, x.seen(source, -1));
            for (int i = 0; i < pieces.length; i++) due(pieces[i], x.seen(source, i));
            due(NONE, x.seen(source, pieces.length));
        }

        /** Fills up the 60 CHANGES with PUTS of a HAND in the BOOK. */
        void fillChanges(int hand) {
            while (x.told(0) < 60) x.put(hand, 1, -1, -1, 1);
        }
    }
}

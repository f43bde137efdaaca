import java.util.ArrayList;
import java.util.List;
import java.util.function.Consumer;
import java.util.function.ToLongFunction;

/** Questions to a house, of every call that asks, to see whether two of them are the same. */
final class Probe {
    // with the calls that make the house, far from the 512 that an object is used for
    private static final int CALLS_OF_ONE = 300;
    private static final int[] SOURCES = {0, 1, 2, 5, 10, 11, 17};
    private static final int CHANGES = 60, PIECES = 20;

    private record Question(String name, ToLongFunction<BookHouse> ask) { }

    private static final List<Question> QUESTIONS = new ArrayList<>();
    // these change the house: each is asked of one of its own
    private static final List<Question> LAST_QUESTIONS = new ArrayList<>();

    static {
        askOfCounts();
        askOfChanges();
        for (int source : SOURCES) askOfSource(source);
        askOfTongues();
        for (int e = 0; e < 6; e++) askOfEdition(e);
        for (int hand = 0; hand < 6; hand++) askLast(hand);
    }

    private static void ask(String name, ToLongFunction<BookHouse> question) {
        QUESTIONS.add(new Question(name, question));
    }

    private static void askOfCounts() {
        for (int k = 0; k < 26; k++) {
            int what = k;
            ask("told " + what, x -> x.told(what));
        }
    }

    private static void askOfChanges() {
        for (int k = 0; k < CHANGES * 8; k++) {
            int i = k / 8;
            int what = k % 8;
            ask("change " + i + " " + what, x -> x.change(i, what));
        }
    }

    private static void askOfSource(int source) {
        ask("digest " + source, x -> x.digest(source));
        ask("open " + source, x -> x.open(source));
        for (int k = 0; k < CHANGES; k++) {
            int c = k;
            ask("came " + source + " " + c, x -> x.came(source, c));
            ask("say " + source + " " + c, x -> x.say(source, c));
        }
        for (int k = -1; k < 12; k++) {
            int i = k;
            ask("seen " + source + " " + i, x -> x.seen(source, i));
        }
        for (int p = 0; p < PIECES; p++) askOfPiece(source, p);
        for (int other : SOURCES) {
            ask("clash " + source + " " + other, x -> x.clash(source, other, -1));
            ask("clash " + source + " " + other + " 0", x -> x.clash(source, other, 0));
        }
    }

    private static void askOfPiece(int source, int p) {
        for (int k = 0; k < 10; k++) {
            int what = k;
            ask("piece " + source + " " + p + " " + what, x -> x.piece(source, p, what));
        }
        for (int k = 0; k < 8; k++) {
            int i = k / 2;
            int what = k % 2;
            ask("at " + source + " " + p + " " + i + " " + what, x -> x.at(source, p, i, what));
        }
    }

    private static void askOfTongues() {
        for (int k = 0; k < 24 * 6; k++) {
            int n = k;
            ask("pair " + n / 6, x -> x.pair(n / 6, n % 2, n % 6 / 2));
        }
        for (int k = 0; k < 2 * SOURCES.length; k++) {
            int tongue = 1 + k % 2;
            int source = SOURCES[k / 2];
            ask("stale " + tongue + " " + source, x -> x.stale(tongue, source, -1));
            ask("stale " + tongue + " " + source + " 0", x -> x.stale(tongue, source, 0));
            ask("unlike " + tongue + " " + source, x -> x.unlike(tongue, source, -1));
            ask("offer " + tongue + " " + source, x -> x.offer(tongue, source, 1, 0));
            ask("offer " + tongue + " " + source + " 1", x -> x.offer(tongue, source, 1, 1));
        }
    }

    private static void askOfEdition(int e) {
        for (int k = 0; k < 6; k++) {
            int what = k;
            ask("pages " + e + " " + what, x -> x.pages(e, what));
            ask("reach " + e + " " + what, x -> x.reach(e, 1, what));
        }
        for (int p = 0; p < PIECES; p++) {
            int piece = p;
            ask("onPage " + e + " " + piece, x -> x.onPage(e, piece, 0));
            ask("line " + e + " " + piece, x -> x.line(e, piece, 0));
        }
        for (int w = 1; w < 10; w++) {
            int word = w;
            ask("index " + e + " " + word, x -> x.index(e, word, -1));
        }
    }

    /** What is on a PAD shows as WORDS and in a PAIR; what is made next, by its number and STAMP. */
    private static void askLast(int hand) {
        LAST_QUESTIONS.add(new Question("words of the pad " + hand, x -> {
            x.give(0, hand, 60);
            int c = x.words(hand, 1);
            long h = 31L * c + x.change(c, 2);
            for (int i = 0; i < 8; i++) h = 31 * h + x.at(hand, 1, i, 0);
            return h;
        }));
        LAST_QUESTIONS.add(new Question("pair of the pad " + hand, x -> {
            int k = x.lead(2, 0, 1, hand);
            long h = k;
            for (int i = 0; i < 8; i++) h = 31 * h + x.pair(k, 1, i);
            return h;
        }));
        LAST_QUESTIONS.add(new Question("what is sought with the pad " + hand, x -> x.seek(0, hand, -1)));
    }

    static String name(int k) {
        return k < QUESTIONS.size() ? QUESTIONS.get(k).name : LAST_QUESTIONS.get(k - QUESTIONS.size()).name;
    }

    /** All answers of a house; it is made anew as often as the calls to one object ask for it. */
    static long[] answers(Consumer<BookHouse> made) {
        long[] all = new long[QUESTIONS.size() + LAST_QUESTIONS.size()];
        BookHouse x = null;
        for (int k = 0; k < all.length; k++) {
            boolean isLast = k >= QUESTIONS.size();
            if (isLast || k % CALLS_OF_ONE == 0) {
                x = new BookHouse();
                made.accept(x);
            }
            Question q = isLast ? LAST_QUESTIONS.get(k - QUESTIONS.size()) : QUESTIONS.get(k);
            all[k] = q.ask.applyAsLong(x);
        }
        return all;
    }
}

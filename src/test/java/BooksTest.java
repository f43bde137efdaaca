/** Promises 16 to 20: what is SEEN, PIECES, WORDS and WHO put them, places, the digest. */
public final class BooksTest {
    private static final int UNKNOWN = Check.UNKNOWN, OUTSIDE = Check.OUTSIDE, STATE = Check.STATE, NONE = Check.NONE,
        LOST = Check.LOST;

    private static void seen() {
        Check.that("16 seen: each PIECE ahead of what is in it, none in a STRUCK PART", c -> {
            int a = c.part(0);
            int in = c.part(0, a);
            int deep = c.sentence(0, in);
            int behind = c.sentence(0, a);
            int last = c.picture(0, -1, 2);
            c.dueSeen(0, a, in, deep, behind, last);
            c.x.strike(0, in);
            c.dueSeen(0, a, behind, last);
            c.x.strike(0, deep);
            c.x.strike(0, a);
            c.dueSeen(0, last);
            c.due(NONE, c.x.seen(0, -2));
            c.due(NONE, c.x.seen(0, Integer.MAX_VALUE));
            c.due(UNKNOWN, c.x.seen(6, 0));
            c.due(UNKNOWN, c.x.seen(-1, 0));
            c.due(UNKNOWN, c.x.seen(9, -1));
            c.due(UNKNOWN, c.x.seen(10, -1));
        });
        Check.that("16 seen: PARTS in PARTS as deep as CHANGES go", c -> {
            int under = -1;
            for (int k = 0; k < 60; k++) under = c.x.put(0, 0, under, -1, 1);
            c.due(60, c.x.seen(0, -1));
            c.due(59, c.x.seen(0, 59));
            c.due(59, c.x.piece(0, 59, 9));
        });
    }

    private static void piece() {
        Check.that("17 piece: what it tells", c -> {
            int a = c.part(0);
            int b = c.x.put(0, 0, a, -1, 1);
            int s = c.sentence(0, b, 7, 8, 9);
            int t = c.sentence(0, b);
            c.x.note(0, s, 2);
            c.x.tie(0, s, a);
            c.x.strike(0, s);
            int[] ofS = {1, 1, 0, b, -1, 0, 3, 2, a, 2};
            int[] ofT = {1, 0, 1, b, s, 0, 0, 0, -1, 2};
            int[] ofB = {1, 0, 1, a, -1, 2, 0, 0, -1, 1};
            int[] ofA = {1, 0, 1, -1, -1, 1, 0, 0, -1, 0};
            for (int what = 0; what < 10; what++) {
                c.due(ofS[what], c.x.piece(0, s, what));
                c.due(ofT[what], c.x.piece(0, t, what));
                c.due(ofB[what], c.x.piece(0, b, what));
                c.due(ofA[what], c.x.piece(0, a, what));
            }
            c.x.strike(0, a);
            c.due(0, c.x.piece(0, t, 2));
            c.due(0, c.x.piece(0, t, 1));
        });
        Check.that("17 piece: refusals in order", c -> {
            int a = c.part(0);
            int change = c.x.strike(0, a);
            c.due(LOST + UNKNOWN, c.x.piece(6, a, 10));
            c.due(LOST + UNKNOWN, c.x.piece(0, change, 0));
            c.due(LOST + UNKNOWN, c.x.piece(0, 2, 0));
            c.due(LOST + UNKNOWN, c.x.piece(0, -1, 5));
            c.due(LOST + UNKNOWN, c.x.piece(10, a, 0));
            c.due(LOST + OUTSIDE, c.x.piece(1, a, 10));
            c.due(LOST + OUTSIDE, c.x.piece(1, a, -1));
            c.due(0, c.x.piece(1, a, 0));
            for (int what = 1; what < 10; what++) c.due(LOST + STATE, c.x.piece(1, a, what));
        });
    }

    private static void at() {
        Check.that("18 at: WORDS and WHO put them, kept from the first on and from the last on", c -> {
            int s = c.sentence(0, -1);
            int one = c.say(0, s, 1, 2, 3, 4);
            c.dueWho(0, s, one, one, one, one);
            int two = c.say(0, s, 1, 9, 8, 4);
            c.dueWords(0, s, 1, 9, 8, 4);
            c.dueWho(0, s, one, two, two, one);
            c.say(0, s, 1, 8, 4);
            c.dueWho(0, s, one, two, one);
            int four = c.say(0, s, 1, 8, 5, 8, 4);
            // 1 8 from the first on, 4 from the last on: the 8 counts already
            c.dueWho(0, s, one, two, four, four, one);
            int five = c.say(0, s, 2, 1, 8, 5, 8, 4);
            c.dueWho(0, s, five, one, two, four, four, one);
            c.say(0, s, 2, 1, 8, 5, 8, 4);
            c.dueWho(0, s, five, one, two, four, four, one);
            c.say(0, s, 2, 1);
            c.dueWho(0, s, five, one);
            int six = c.say(0, s, 3);
            c.dueWho(0, s, six);
        });
        Check.that("18 at: same WORDS in a row are counted once", c -> {
            int s = c.sentence(0, -1);
            int one = c.say(0, s, 5, 5, 5);
            int two = c.say(0, s, 5, 5, 5, 5, 5);
            c.dueWho(0, s, one, one, one, two, two);
            c.say(0, s, 5, 5, 5, 5);
            c.dueWho(0, s, one, one, one, two);
            int four = c.say(0, s, 5, 6, 5);
            c.dueWho(0, s, one, four, two);
        });
        Check.that("18 at: FOLDS do not make WORDS the same; a longer row, the tail goes back", c -> {
            int s = c.sentence(0, -1);
            c.x.fold(1, 2);
            int one = c.say(0, s, 1, 7, 8);
            int two = c.say(0, s, 2, 3, 4, 5, 6, 7, 8);
            c.dueWho(0, s, two, two, two, two, two, one, one);
            c.dueWords(0, s, 2, 3, 4, 5, 6, 7, 8);
        });
        Check.that("18 at: refusals in order", c -> {
            int s = c.sentence(0, -1, 5, 6);
            int part = c.part(0);
            c.due(LOST + UNKNOWN, c.x.at(6, s, 0, 2));
            c.due(LOST + UNKNOWN, c.x.at(1, s, 0, 0));
            c.due(LOST + UNKNOWN, c.x.at(0, s, 2, 2));
            c.due(LOST + UNKNOWN, c.x.at(0, s, -1, 0));
            c.due(LOST + UNKNOWN, c.x.at(0, part, 0, 0));
            c.due(LOST + UNKNOWN, c.x.at(0, 1, 0, 0));
            c.due(LOST + UNKNOWN, c.x.at(0, 99, 0, 0));
            c.due(LOST + UNKNOWN, c.x.at(0, -1, 0, 0));
            c.due(LOST + OUTSIDE, c.x.at(0, s, 0, 2));
            c.due(LOST + OUTSIDE, c.x.at(0, s, 1, -1));
        });
    }

    private static void seek() {
        Check.that("19 seek: places in SENTENCES that are SEEN, but for FOLDS, not over their ends", c -> {
            int s = c.sentence(0, -1, 5, 5, 6, 5);
            int t = c.sentence(0, -1, 6, 5, 9);
            int u = c.sentence(0, -1, 5, 6);
            c.x.strike(0, u);
            c.pad(1, 5);
            c.due(4, c.x.seek(0, 1, -1));
            int[] places = {10 * s, 10 * s + 1, 10 * s + 3, 10 * t + 1};
            for (int i = 0; i < 4; i++) c.due(places[i], c.x.seek(0, 1, i));
            c.due(NONE, c.x.seek(0, 1, 4));
            c.due(NONE, c.x.seek(0, 1, -2));
            c.due(1, c.x.told(21));
            c.pad(1, 6);
            c.due(1, c.x.seek(0, 1, -1));
            c.due(10 * s + 1, c.x.seek(0, 1, 0));
            c.x.fold(9, 6);
            c.due(2, c.x.seek(0, 1, -1));
            c.due(10 * t + 1, c.x.seek(0, 1, 1));
            c.due(2, c.x.told(21));
            c.pad(1, 5, 6);
            c.due(0, c.x.seek(0, 1, -1));
            c.due(NONE, c.x.seek(0, 1, 0));
        });
        Check.that("19 seek: places lie over each other", c -> {
            int s = c.sentence(0, -1, 5, 5, 5);
            c.pad(0, 5, 5);
            c.due(2, c.x.seek(0, 0, -1));
            c.due(10 * s + 1, c.x.seek(0, 0, 1));
        });
        Check.that("19 seek: refusals in order", c -> {
            c.due(UNKNOWN, c.x.seek(6, 0, -1));
            c.due(UNKNOWN, c.x.seek(0, 6, -1));
            c.due(UNKNOWN, c.x.seek(0, -1, -1));
            c.due(STATE, c.x.seek(0, 0, -1));
            c.due(STATE, c.x.seek(0, 0, 0));
        });
    }

    private static void digest() {
        Check.that("20 digest: numbers, PARTS around, WORDS, as they are SEEN", c -> {
            int a = c.part(0);
            int s = c.sentence(0, a, 7, 99);
            int p = c.picture(0, -1, 3);
            long h = 251;
            long[] v = {a, 0, s, 1, 7, 99, p, 0};
            for (long one : v) h = 31 * h + one;
            c.due(h, c.x.digest(0));
            c.x.strike(0, a);
            c.due((251L * 31 + p) * 31, c.x.digest(0));
            c.due(251, c.x.digest(1));
            c.due(LOST + UNKNOWN, c.x.digest(6));
            c.due(LOST + UNKNOWN, c.x.digest(-1));
            c.due(LOST + UNKNOWN, c.x.digest(10));
        });
        Check.that("20 digest: a long book goes round in 64 bits", c -> {
            long h = 251;
            for (int k = 0; k < 20; k++) {
                int s = c.sentence(0, -1, 90, 91, 92, 93, 94, 95, 96, 97);
                h = (31 * h + s) * 31;
                for (int w = 90; w < 98; w++) h = 31 * h + w;
            }
            c.due(h, c.x.digest(0));
        });
    }

    public static void main(String[] args) {
        seen();
        piece();
        at();
        seek();
        digest();
        Check.end();
    }
}

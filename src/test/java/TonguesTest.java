/** Promises 27 to 32: PAIRS, STALE ones, OFFERS, TERMS. */
public final class TonguesTest {
    private static final int UNKNOWN = Check.UNKNOWN, OUTSIDE = Check.OUTSIDE, FULL = Check.FULL, NO = Check.NO,
        NONE = Check.NONE;

    private static int lead(Check.Case c, int tongue, int source, int piece, int... row) {
        c.pad(5, row);
        return c.x.lead(tongue, source, piece, 5);
    }

    private static void lead() {
        Check.that("27 lead: numbers from 0 on, 24 at most; the PAD is emptied", c -> {
            int s = c.sentence(0, -1, 5);
            for (int k = 0; k < 24; k++) {
                c.due(k, lead(c, 1 + k % 2, 0, s, 50));
                c.due(0, c.x.told(25));
            }
            c.pad(5, 7);
            c.due(FULL, c.x.lead(1, 0, 99, 5));
            c.due(UNKNOWN, c.x.lead(1, 0, s, 6));
            c.due(1, c.x.told(25));
            c.due(24, c.x.told(5));
        });
        Check.that("27 lead: a STRUCK SENTENCE too, of a STATE too", c -> {
            int s = c.sentence(0, -1, 5, 6);
            c.x.keep(0);
            c.x.strike(0, s);
            c.say(1, s);
            c.due(0, lead(c, 1, 0, s, 50));
            c.due(1, lead(c, 1, 10, s, 51));
            c.due(6, c.x.pair(1, 0, 1));
        });
        Check.that("27 lead: refusals, the PAD stays", c -> {
            int s = c.sentence(0, -1, 5);
            int empty = c.sentence(0, -1);
            int part = c.part(0);
            c.due(NO, c.x.lead(1, 0, s, 5));
            c.pad(5, 50);
            c.due(UNKNOWN, c.x.lead(0, 0, s, 5));
            c.due(UNKNOWN, c.x.lead(3, 0, s, 5));
            c.due(UNKNOWN, c.x.lead(1, 6, s, 5));
            c.due(UNKNOWN, c.x.lead(1, 0, s, -1));
            c.due(NO, c.x.lead(1, 0, empty, 5));
            c.due(NO, c.x.lead(1, 0, part, 5));
            c.due(NO, c.x.lead(1, 0, 99, 5));
            c.due(NO, c.x.lead(1, 0, -1, 5));
            c.due(NO, c.x.lead(1, 1, s, 5));
            c.due(1, c.x.told(25));
            c.due(0, c.x.told(5));
        });
    }

    private static void stale() {
        Check.that("28 stale: not LED, or other WORDS than the latest PAIR's, but for FOLDS", c -> {
            int a = c.part(0);
            int s = c.sentence(0, a, 1, 2);
            int t = c.sentence(0, a, 3);
            int empty = c.sentence(0, a);
            c.due(2, c.x.stale(1, 0, -1));
            c.due(s, c.x.stale(1, 0, 0));
            c.due(t, c.x.stale(1, 0, 1));
            c.due(NONE, c.x.stale(1, 0, 2));
            c.due(NONE, c.x.stale(1, 0, -2));
            lead(c, 1, 0, s, 50);
            c.due(1, c.x.stale(1, 0, -1));
            c.due(t, c.x.stale(1, 0, 0));
            c.due(2, c.x.stale(2, 0, -1));
            c.say(0, s, 1, 4);
            c.due(2, c.x.stale(1, 0, -1));
            c.x.fold(4, 2);
            c.due(1, c.x.stale(1, 0, -1));
            c.say(0, s, 1);
            c.due(2, c.x.stale(1, 0, -1));
            lead(c, 1, 0, s, 51);
            c.due(1, c.x.stale(1, 0, -1));
            // the latest counts, were an earlier one right, too
            c.say(0, s, 1, 2);
            c.due(2, c.x.stale(1, 0, -1));
            c.x.strike(0, s);
            c.due(1, c.x.stale(1, 0, -1));
            c.x.strike(0, a);
            c.due(0, c.x.stale(1, 0, -1));
            c.due(0, c.x.piece(0, empty, 6));
        });
        Check.that("28 stale: as it is in the SOURCE", c -> {
            int s = c.sentence(0, -1, 1);
            c.x.give(0, 1, 60);
            lead(c, 2, 0, s, 50);
            c.say(1, s, 2);
            c.due(0, c.x.stale(2, 0, -1));
            c.due(s, c.x.stale(2, 1, 0));
        });
        Check.that("28 stale: UNKNOWN", c -> {
            c.due(UNKNOWN, c.x.stale(0, 0, -1));
            c.due(UNKNOWN, c.x.stale(3, 0, -1));
            c.due(UNKNOWN, c.x.stale(1, 6, -1));
            c.due(0, c.x.stale(2, 5, -1));
        });
    }

    private static void offer() {
        Check.that("29 offer: the least COST, the first of several, of the TONGUE", c -> {
            int s = c.sentence(0, -1, 1, 2, 3, 4);
            int t = c.sentence(0, -1, 1, 2, 3);
            int u = c.sentence(0, -1, 9, 2, 3);
            c.due(NONE, c.x.offer(1, 0, s, 0));
            lead(c, 2, 0, s, 60);
            c.due(NONE, c.x.offer(1, 0, s, 3));
            lead(c, 1, 0, t, 50, 51);
            lead(c, 1, 0, s, 52, 53, 54);
            lead(c, 1, 0, t, 55);
            int[] due = {2, 0, s, 3};
            for (int what = 0; what < 4; what++) c.due(due[what], c.x.offer(1, 0, s, what));
            due = new int[] {1, 0, t, 2};
            for (int what = 0; what < 4; what++) c.due(due[what], c.x.offer(1, 0, t, what));
            // 9 for 1: one left out, one put in
            due = new int[] {1, 2, t, 2};
            for (int what = 0; what < 4; what++) c.due(due[what], c.x.offer(1, 0, u, what));
            c.due(0, c.x.offer(2, 0, u, 0));
            c.due(3, c.x.offer(2, 0, u, 1));
            c.x.fold(9, 1);
            c.due(1, c.x.offer(2, 0, u, 1));
            c.due(0, c.x.offer(1, 0, u, 1));
        });
        Check.that("29 offer: COST of rows", c -> {
            int[][] rows = {{1, 2, 3}, {1, 2, 3}, {2, 3, 4}, {3, 2, 1}, {1}, {}, {4, 5, 6}, {1, 2, 3, 1, 2, 3, 1, 2},
                {9, 1, 9, 2, 9, 3, 9, 9}};
            int[] costs = {0, 0, 2, 4, 2, 3, 6, 5, 5};
            int s = c.sentence(0, -1, rows[0]);
            lead(c, 1, 0, s, 50);
            for (int k = 0; k < rows.length; k++) {
                c.say(0, s, rows[k]);
                c.due(costs[k], c.x.offer(1, 0, s, 1));
            }
        });
        Check.that("29 offer: for a STRUCK SENTENCE, and one without WORDS, too", c -> {
            int s = c.sentence(0, -1, 1, 2);
            int empty = c.sentence(0, -1);
            lead(c, 1, 0, s, 50);
            c.x.strike(0, s);
            c.due(0, c.x.offer(1, 0, s, 1));
            c.due(2, c.x.offer(1, 0, empty, 1));
        });
        Check.that("29 offer: refusals in order", c -> {
            int s = c.sentence(0, -1);
            int part = c.part(0);
            c.due(UNKNOWN, c.x.offer(3, 0, s, 4));
            c.due(UNKNOWN, c.x.offer(0, 0, s, 0));
            c.due(UNKNOWN, c.x.offer(1, 6, s, 0));
            c.due(UNKNOWN, c.x.offer(1, 0, part, 4));
            c.due(UNKNOWN, c.x.offer(1, 1, s, 0));
            c.due(UNKNOWN, c.x.offer(1, 0, -1, 0));
            c.due(OUTSIDE, c.x.offer(1, 0, s, 4));
            c.due(OUTSIDE, c.x.offer(1, 0, s, -1));
            c.due(NONE, c.x.offer(1, 0, s, 0));
        });
    }

    private static void pair() {
        Check.that("30 pair: WORDS of both sides, as they were", c -> {
            int s = c.sentence(0, -1, 5, 6);
            lead(c, 1, 0, s, 50, 51, 52);
            c.say(0, s, 7);
            c.due(5, c.x.pair(0, 0, 0));
            c.due(6, c.x.pair(0, 0, 1));
            c.due(NONE, c.x.pair(0, 0, 2));
            c.due(52, c.x.pair(0, 1, 2));
            c.due(NONE, c.x.pair(0, 1, 3));
            c.due(NONE, c.x.pair(0, 1, -1));
            c.due(UNKNOWN, c.x.pair(1, 2, 0));
            c.due(UNKNOWN, c.x.pair(-1, 0, 0));
            c.due(OUTSIDE, c.x.pair(0, 2, 0));
            c.due(OUTSIDE, c.x.pair(0, -1, 9));
        });
    }

    private static void term() {
        Check.that("31 term: how many, 6 at most; refusals in order", c -> {
            c.due(UNKNOWN, c.x.term(0, 0, 0));
            c.due(UNKNOWN, c.x.term(3, 1, 1));
            c.due(OUTSIDE, c.x.term(1, 0, 5));
            c.due(OUTSIDE, c.x.term(1, 100, 5));
            c.due(OUTSIDE, c.x.term(2, 5, 0));
            c.due(OUTSIDE, c.x.term(2, 5, 100));
            for (int k = 1; k <= 6; k++) c.due(k, c.x.term(1 + k % 2, 1, 99));
            c.due(OUTSIDE, c.x.term(2, 5, 0));
            c.due(FULL, c.x.term(2, 5, 5));
            c.due(6, c.x.told(6));
        });
    }

    private static void unlike() {
        Check.that("32 unlike: for some TERM of the TONGUE not as often; FOLDS not counted", c -> {
            int s = c.sentence(0, -1, 1, 1, 2);
            int t = c.sentence(0, -1, 2);
            lead(c, 1, 0, s, 50, 51, 50);
            lead(c, 1, 0, t, 52);
            lead(c, 2, 0, t, 52);
            c.due(0, c.x.unlike(1, 0, -1));
            c.x.term(1, 1, 50);
            c.due(0, c.x.unlike(1, 0, -1));
            c.x.fold(1, 2);
            c.x.fold(50, 51);
            c.due(0, c.x.unlike(1, 0, -1));
            c.x.term(1, 2, 51);
            c.due(1, c.x.unlike(1, 0, -1));
            c.due(t, c.x.unlike(1, 0, 0));
            c.due(NONE, c.x.unlike(1, 0, 1));
            c.due(NONE, c.x.unlike(1, 0, -2));
            c.due(0, c.x.unlike(2, 0, -1));
            c.x.term(1, 70, 51);
            c.due(2, c.x.unlike(1, 0, -1));
            c.due(s, c.x.unlike(1, 0, 0));
            c.due(t, c.x.unlike(1, 0, 1));
        });
        Check.that("32 unlike: not if STALE, not LED, not SEEN; the PAIR's WORDS of the book count", c -> {
            int s = c.sentence(0, -1, 1, 2);
            c.x.term(1, 1, 50);
            c.due(0, c.x.unlike(1, 0, -1));
            lead(c, 1, 0, s, 51);
            c.due(1, c.x.unlike(1, 0, -1));
            c.x.keep(0);
            c.say(0, s, 3, 2);
            c.due(0, c.x.unlike(1, 0, -1));
            c.due(1, c.x.unlike(1, 10, -1));
            c.x.fold(3, 1);
            c.due(1, c.x.unlike(1, 0, -1));
            c.x.strike(0, s);
            c.due(0, c.x.unlike(1, 0, -1));
            c.due(1, c.x.unlike(1, 10, -1));
            lead(c, 1, 10, s, 51, 50);
            c.due(0, c.x.unlike(1, 10, -1));
        });
        Check.that("32 unlike: UNKNOWN", c -> {
            c.due(UNKNOWN, c.x.unlike(0, 0, -1));
            c.due(UNKNOWN, c.x.unlike(3, 0, -1));
            c.due(UNKNOWN, c.x.unlike(1, 6, -1));
            c.due(UNKNOWN, c.x.unlike(1, 17, 0));
        });
    }

    public static void main(String[] args) {
        lead();
        stale();
        offer();
        pair();
        term();
        unlike();
        Check.end();
    }
}

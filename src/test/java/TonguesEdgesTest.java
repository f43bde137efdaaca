/** Edges of PAIRS, OFFERS and TERMS (5 of the terms), and of promises 27 to 32. */
public final class TonguesEdgesTest {
    private static final int UNKNOWN = Check.UNKNOWN, OUTSIDE = Check.OUTSIDE, FULL = Check.FULL, NO = Check.NO,
        NONE = Check.NONE, LEAST = Edge.LEAST, MOST = Edge.MOST;
    private static final Replay HOUSE = Houses.HOUSE, STATES_FULL = Houses.STATES_FULL, PAIRS_FULL = Houses.PAIRS_FULL,
        TERMS_FULL = Houses.TERMS_FULL;
    private static final int NEXT = Houses.NEXT;

    private static int lead(Check.Case c, int tongue, int piece, int... row) {
        c.pad(5, row);
        return c.x.lead(tongue, 0, piece, 5);
    }

    private static void lead() {
        Check.that("27 lead: TONGUES 1 and 2", c -> new Edge(c, HOUSE, (x, n) -> x.lead(n, 0, 1, 0))
            .taken(1, 1).taken(2, 1).refused(UNKNOWN, 0, 3, -1, LEAST, MOST));
        Check.that("27 lead: SOURCES", c -> {
            new Edge(c, HOUSE, (x, n) -> x.lead(1, n, 1, 0)).taken(0, 1).taken(1, 1).taken(10, 1).refused(NO, 5)
                .refused(UNKNOWN, -1, 6, 9, 11, 18, LEAST, MOST);
            new Edge(c, STATES_FULL, (x, n) -> x.lead(1, n, 1, 0)).taken(17, 1).refused(UNKNOWN, 18);
        });
        Check.that("27 lead: HANDS 0 to 5; NO if the PAD is empty", c ->
            new Edge(c, HOUSE, (x, n) -> x.lead(1, 0, 1, n)).taken(0, 1).taken(5, 1).refused(NO, 1, 2, 3, 4)
                .refused(UNKNOWN, -1, 6, 10, LEAST, MOST));
        Check.that("27 lead: of SENTENCES that are THERE and have WORDS", c -> {
            new Edge(c, HOUSE, (x, n) -> x.lead(1, 0, n, 0)).taken(1, 1).taken(5, 1)
                .refused(NO, -1, 0, 2, 3, 6, 8, 11, 14, 15, 17, NEXT, 60, 64, LEAST, MOST);
            Replay struck = HOUSE.then(x -> x.strike(0, 0));
            struck.due(c, 1, x -> x.lead(1, 0, 1, 0));
        });
        Check.that("27 lead: rows of 1 and of 8 WORDS, on both sides; the PAD is empty then", c -> {
            for (int own = 1; own <= 8; own += 7) {
                for (int led = 1; led <= 8; led += 7) {
                    BookHouse x = new BookHouse();
                    x.put(0, 1, -1, -1, 1);
                    for (int k = 0; k < own; k++) x.word(0, 1 + k);
                    x.words(0, 0);
                    for (int k = 0; k < led; k++) x.word(5, 99 - k);
                    c.due(0, x.lead(2, 0, 0, 5));
                    c.due(0, x.told(25));
                    c.due(own, x.pair(0, 0, own - 1));
                    c.due(NONE, x.pair(0, 0, own));
                    c.due(100 - led, x.pair(0, 1, led - 1));
                    c.due(NONE, x.pair(0, 1, led));
                    c.due(led, x.offer(2, 0, 0, 3));
                }
            }
        });
        Check.that("27 lead: 24 at most, of both TONGUES together: the 24th counts, a 25th is not taken", c -> {
            int s = c.sentence(0, -1, 1);
            int t = c.sentence(0, -1, 2);
            for (int k = 0; k < 23; k++) c.due(k, lead(c, 1, s, 50));
            c.due(t, c.x.stale(1, 0, 0));
            c.due(23, lead(c, 1, t, 51));
            c.due(0, c.x.stale(1, 0, -1));
            c.due(FULL, lead(c, 2, t, 52));
            c.due(1, c.x.told(25));
            c.due(24, c.x.told(5));
            c.due(51, c.x.pair(23, 1, 0));
            c.due(UNKNOWN, c.x.pair(24, 1, 0));
        });
        Check.that("27 lead: UNKNOWN, then FULL, then NO; nothing changes", c -> {
            PAIRS_FULL.refused(c, UNKNOWN, x -> x.lead(0, 0, 0, 0));
            PAIRS_FULL.refused(c, UNKNOWN, x -> x.lead(1, 6, 0, 0));
            PAIRS_FULL.refused(c, UNKNOWN, x -> x.lead(1, 0, 0, 6));
            PAIRS_FULL.refused(c, FULL, x -> x.lead(1, 0, 0, 0));
            PAIRS_FULL.refused(c, FULL, x -> x.lead(1, 0, 1, 1));
            PAIRS_FULL.refused(c, FULL, x -> x.lead(2, 0, 1, 0));
        });
    }

    private static void stale() {
        Check.that("28 stale: TONGUES 1 and 2", c -> new Edge(c, HOUSE, (x, n) -> x.stale(n, 0, -1))
            .asked(1, 1).asked(2, 2).refused(UNKNOWN, 0, 3, -1, LEAST, MOST));
        Check.that("28 stale: SOURCES", c -> {
            new Edge(c, HOUSE, (x, n) -> x.stale(1, n, -1)).asked(0, 1).asked(1, 2).asked(5, 0).asked(10, 1)
                .refused(UNKNOWN, -1, 6, 9, 11, 18, LEAST, MOST);
            new Edge(c, STATES_FULL, (x, n) -> x.stale(1, n, -1)).asked(17, 2).refused(UNKNOWN, 18);
        });
        Check.that("28 stale: i from -1 to the last one", c -> new Edge(c, HOUSE, (x, n) -> x.stale(2, 0, n))
            .asked(-1, 2).asked(0, 1).asked(1, 5).asked(2, NONE).asked(-2, NONE).asked(LEAST, NONE).asked(MOST, NONE));
        Check.that("28 stale: not one without WORDS, though its PAIR has some", c -> {
            int s = c.sentence(0, -1, 1);
            lead(c, 1, s, 50);
            c.say(0, s);
            c.due(0, c.x.stale(1, 0, -1));
            c.due(0, c.x.stale(2, 0, -1));
            c.say(0, s, 1);
            c.due(0, c.x.stale(1, 0, -1));
            c.due(1, c.x.stale(2, 0, -1));
        });
        Check.that("28 stale: one WORD more, one less, another one; another but for FOLDS is not", c -> {
            int s = c.sentence(0, -1, 1, 2);
            lead(c, 1, s, 50);
            int[][] others = {{1}, {2}, {1, 2, 3}, {2, 1}, {1, 9}, {9, 2}};
            for (int[] row : others) {
                c.say(0, s, row);
                c.due(1, c.x.stale(1, 0, -1));
            }
            c.x.fold(9, 1);
            c.due(0, c.x.stale(1, 0, -1));
        });
        Check.that("28 stale: a PAIR of another SENTENCE, and of the other TONGUE, lead it not", c -> {
            int s = c.sentence(0, -1, 1);
            int t = c.sentence(0, -1, 1);
            lead(c, 1, s, 50);
            c.due(1, c.x.stale(1, 0, -1));
            c.due(t, c.x.stale(1, 0, 0));
            c.due(2, c.x.stale(2, 0, -1));
            lead(c, 2, t, 50);
            c.due(s, c.x.stale(2, 0, 0));
        });
    }

    private static void offer() {
        Check.that("29 offer: TONGUES 1 and 2; NONE if there are no PAIRS in it", c -> {
            new Edge(c, HOUSE, (x, n) -> x.offer(n, 0, 1, 0)).asked(1, 0).asked(2, NONE)
                .refused(UNKNOWN, 0, 3, -1, LEAST, MOST);
            for (int k = 0; k < 4; k++) {
                int what = k;
                HOUSE.asked(c, NONE, x -> x.offer(2, 0, 1, what));
            }
        });
        Check.that("29 offer: SOURCES", c -> {
            new Edge(c, HOUSE, (x, n) -> x.offer(1, n, 1, 1)).asked(0, 0).asked(1, 2).asked(10, 0)
                .refused(UNKNOWN, -1, 5, 6, 9, 11, 18, LEAST, MOST);
            new Edge(c, STATES_FULL, (x, n) -> x.offer(1, n, 1, 1)).asked(17, 2).refused(UNKNOWN, 18);
        });
        Check.that("29 offer: SENTENCES that are THERE, without WORDS and STRUCK ones, too", c ->
            new Edge(c, HOUSE, (x, n) -> x.offer(1, 0, n, 1)).asked(1, 0).asked(2, 3).asked(8, 3).asked(5, 1)
                .refused(UNKNOWN, -1, 0, 3, 6, 11, 14, 15, 17, NEXT, 60, 64, LEAST, MOST));
        Check.that("29 offer: what 0 to 3", c -> new Edge(c, HOUSE, (x, n) -> x.offer(1, 0, 5, n))
            .asked(0, 0).asked(1, 1).asked(2, 1).asked(3, 2).refused(OUTSIDE, -1, 4, LEAST, MOST));
        Check.that("29 offer: UNKNOWN, then OUTSIDE, and NONE then", c -> {
            HOUSE.refused(c, UNKNOWN, x -> x.offer(1, 0, 0, 4));
            HOUSE.refused(c, UNKNOWN, x -> x.offer(3, 0, 1, 4));
            HOUSE.refused(c, OUTSIDE, x -> x.offer(2, 0, 1, 4));
        });
        Check.that("29 offer: COST from 0 to 16: rows of eight that have nothing alike", c -> {
            int s = c.sentence(0, -1, 1, 2, 3, 4, 5, 6, 7, 8);
            int t = c.sentence(0, -1, 11, 12, 13, 14, 15, 16, 17, 18);
            int empty = c.sentence(0, -1);
            lead(c, 1, s, 50);
            c.due(0, c.x.offer(1, 0, s, 1));
            c.due(16, c.x.offer(1, 0, t, 1));
            c.due(8, c.x.offer(1, 0, empty, 1));
            c.x.fold(1, 11);
            c.due(14, c.x.offer(1, 0, t, 1));
            c.x.fold(8, 18);
            c.due(12, c.x.offer(1, 0, t, 1));
            c.x.fold(7, 14);
            c.due(10, c.x.offer(1, 0, t, 1));
            // 2 stands ahead of 7, 17 behind 14: one of both can be left as it is
            c.x.fold(2, 17);
            c.due(10, c.x.offer(1, 0, t, 1));
        });
        Check.that("29 offer: leaving out one costs 1, putting in one 1, changing one 2", c -> {
            int s = c.sentence(0, -1, 1, 2, 3);
            lead(c, 1, s, 50);
            int[][] rows = {{2, 3}, {1, 3}, {1, 2}, {9, 1, 2, 3}, {1, 9, 2, 3}, {1, 2, 3, 9}, {9, 2, 3}, {1, 9, 3},
                {1, 2, 9}, {2, 1, 3}, {3}, {2}, {1}, {3, 1, 2}};
            int[] costs = {1, 1, 1, 1, 1, 1, 2, 2, 2, 2, 2, 2, 2, 2};
            for (int k = 0; k < rows.length; k++) {
                c.say(0, s, rows[k]);
                c.due(costs[k], c.x.offer(1, 0, s, 1));
            }
        });
        Check.that("29 offer: asked for the first time, of one WORD: a dearer PAIR ahead of a cheaper one", c -> {
            int s = c.sentence(0, -1, 9);
            lead(c, 1, s, 50);
            c.say(0, s, 1, 2);
            lead(c, 1, s, 51);
            c.say(0, s, 1);
            c.due(1, c.x.offer(1, 0, s, 0));
            c.due(1, c.x.offer(1, 0, s, 1));
        });
        Check.that("29 offer: the first of several, of 24", c -> {
            int s = c.sentence(0, -1, 1);
            int t = c.sentence(0, -1, 2, 3);
            for (int k = 0; k < 23; k++) lead(c, 1, k < 12 ? t : s, 50);
            lead(c, 1, t, 60, 61);
            c.due(12, c.x.offer(1, 0, s, 0));
            c.due(0, c.x.offer(1, 0, t, 0));
            c.say(0, s, 2, 9);
            c.due(0, c.x.offer(1, 0, s, 0));
            c.due(t, c.x.offer(1, 0, s, 2));
        });
    }

    private static void pair() {
        Check.that("30 pair: PAIRS that were made", c -> {
            new Edge(c, HOUSE, (x, n) -> x.pair(n, 0, 0)).asked(0, 5).refused(UNKNOWN, -1, 1, 24, LEAST, MOST);
            new Edge(c, PAIRS_FULL, (x, n) -> x.pair(n, 1, 0)).asked(1, 61).asked(23, 83).refused(UNKNOWN, 24);
        });
        Check.that("30 pair: side 0 and 1", c -> new Edge(c, HOUSE, (x, n) -> x.pair(0, n, 0))
            .asked(0, 5).asked(1, 50).refused(OUTSIDE, -1, 2, LEAST, MOST));
        Check.that("30 pair: i from 0 to the last WORD", c -> {
            new Edge(c, HOUSE, (x, n) -> x.pair(0, 0, n)).asked(0, 5).asked(2, 7).asked(3, NONE).asked(-1, NONE)
                .asked(LEAST, NONE).asked(MOST, NONE);
            new Edge(c, HOUSE, (x, n) -> x.pair(0, 1, n)).asked(0, 50).asked(1, 51).asked(2, NONE).asked(-1, NONE);
        });
        Check.that("30 pair: UNKNOWN, then OUTSIDE, and NONE then", c -> {
            HOUSE.refused(c, UNKNOWN, x -> x.pair(1, 2, 0));
            HOUSE.refused(c, OUTSIDE, x -> x.pair(0, 2, 9));
        });
    }

    private static void term() {
        Check.that("31 term: TONGUES 1 and 2", c -> new Edge(c, HOUSE, (x, n) -> x.term(n, 1, 1))
            .taken(1, 2).taken(2, 2).refused(UNKNOWN, 0, 3, -1, LEAST, MOST));
        Check.that("31 term: WORDS 1 to 99, both; one and the same too", c -> {
            new Edge(c, HOUSE, (x, n) -> x.term(1, n, 50)).taken(1, 2).taken(50, 2).taken(99, 2)
                .refused(OUTSIDE, 0, 100, -1, LEAST, MOST);
            new Edge(c, HOUSE, (x, n) -> x.term(1, 50, n)).taken(1, 2).taken(50, 2).taken(99, 2)
                .refused(OUTSIDE, 0, 100, -1, LEAST, MOST);
        });
        Check.that("31 term: 6 at most: the 6th counts, a 7th is not taken", c -> {
            int s = c.sentence(0, -1, 1);
            lead(c, 1, s, 50);
            for (int k = 1; k <= 5; k++) c.due(k, c.x.term(2, 1, 51));
            c.due(0, c.x.unlike(1, 0, -1));
            c.due(6, c.x.term(1, 1, 50));
            c.due(0, c.x.unlike(1, 0, -1));
            c.due(FULL, c.x.term(1, 1, 51));
            c.due(0, c.x.unlike(1, 0, -1));
            c.due(6, c.x.told(6));
        });
        Check.that("31 term: UNKNOWN, then OUTSIDE, then FULL; nothing changes", c -> {
            TERMS_FULL.refused(c, UNKNOWN, x -> x.term(0, 0, 1));
            TERMS_FULL.refused(c, OUTSIDE, x -> x.term(1, 0, 1));
            TERMS_FULL.refused(c, OUTSIDE, x -> x.term(1, 1, 100));
            TERMS_FULL.refused(c, FULL, x -> x.term(1, 1, 1));
        });
    }

    private static void unlike() {
        // 5 comes in 1 and in its PAIR's row not as often
        Replay unlike = HOUSE.then(x -> x.term(1, 6, 52));
        Check.that("32 unlike: TONGUES 1 and 2", c -> new Edge(c, unlike, (x, n) -> x.unlike(n, 0, -1))
            .asked(1, 1).asked(2, 0).refused(UNKNOWN, 0, 3, -1, LEAST, MOST));
        Check.that("32 unlike: SOURCES", c -> {
            new Edge(c, unlike, (x, n) -> x.unlike(1, n, -1)).asked(0, 1).asked(1, 0).asked(5, 0).asked(10, 1)
                .refused(UNKNOWN, -1, 6, 9, 11, 18, LEAST, MOST);
            new Edge(c, STATES_FULL, (x, n) -> x.unlike(1, n, -1)).asked(17, 0).refused(UNKNOWN, 18);
        });
        Check.that("32 unlike: i from -1 to the last one", c -> new Edge(c, unlike, (x, n) -> x.unlike(1, 0, n))
            .asked(-1, 1).asked(0, 1).asked(1, NONE).asked(-2, NONE).asked(LEAST, NONE).asked(MOST, NONE));
        Check.that("32 unlike: as often, none and none, once more, once less, eight times", c -> {
            int s = c.sentence(0, -1, 1, 1);
            c.x.term(1, 1, 50);
            int[][] rows = {{50, 50}, {50}, {50, 50, 50}, {51}, {50, 51, 50}, {50, 50, 50, 50, 50, 50, 50, 50}};
            int[] due = {0, 1, 1, 1, 0, 1};
            for (int k = 0; k < rows.length; k++) {
                lead(c, 1, s, rows[k]);
                c.due(due[k], c.x.unlike(1, 0, -1));
            }
            c.say(0, s, 2);
            lead(c, 1, s, 51);
            c.due(0, c.x.unlike(1, 0, -1));
            lead(c, 1, s, 50);
            c.due(1, c.x.unlike(1, 0, -1));
        });
        Check.that("32 unlike: for one TERM of several, the first or the last", c -> {
            int s = c.sentence(0, -1, 1, 2);
            lead(c, 1, s, 50, 51);
            c.x.term(1, 1, 50);
            c.x.term(2, 2, 50);
            c.x.term(1, 2, 51);
            c.due(0, c.x.unlike(1, 0, -1));
            c.x.term(1, 2, 59);
            c.due(s, c.x.unlike(1, 0, 0));
        });
        Check.that("32 unlike: one without WORDS is not; nor one that became STALE by one WORD", c -> {
            int s = c.sentence(0, -1, 1);
            lead(c, 1, s, 51);
            c.x.term(1, 1, 50);
            c.due(1, c.x.unlike(1, 0, -1));
            c.say(0, s);
            c.due(0, c.x.unlike(1, 0, -1));
            c.say(0, s, 1, 2);
            c.due(0, c.x.unlike(1, 0, -1));
        });
    }

    public static void main(String[] args) {
        lead();
        stale();
        offer();
        pair();
        term();
        unlike();
        Check.end();
    }
}

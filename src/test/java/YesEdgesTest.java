/** Edges of RULES, YESES and FOLDS (4 of the terms), and of promises 23 to 26. */
public final class YesEdgesTest {
    private static final int UNKNOWN = Check.UNKNOWN, OUTSIDE = Check.OUTSIDE, FULL = Check.FULL, NO = Check.NO,
        LEAST = Edge.LEAST, MOST = Edge.MOST;
    private static final Replay HOUSE = Houses.HOUSE, RULES_FULL = Houses.RULES_FULL, YESES_FULL = Houses.YESES_FULL,
        FOLDS_FULL = Houses.FOLDS_FULL;
    private static final int NEXT = Houses.NEXT;

    private static void rule() {
        Check.that("23 rule: HANDS 0 to 5", c -> new Edge(c, HOUSE, (x, n) -> x.rule(n, -1)).taken(0, 3).taken(5, 3)
            .refused(UNKNOWN, -1, 6, 10, LEAST, MOST));
        Check.that("23 rule: of a PUT that was made, by any HAND, STRUCK or not, or -1", c ->
            new Edge(c, HOUSE, (x, n) -> x.rule(0, n)).taken(-1, 3).taken(0, 3).taken(11, 3).taken(15, 3)
                .refused(UNKNOWN, -2, 6, 9, 17, NEXT, 59, 60, 64, LEAST, MOST));
        Check.that("23 rule: 6 at most: the 6th is taken and open, a 7th is not", c -> {
            for (int k = 1; k <= 6; k++) c.due(k, c.x.rule(k % 6, -1));
            c.due(63, c.x.open(0));
            c.due(FULL, c.x.rule(0, -1));
            c.due(6, c.x.told(2));
            c.due(63, c.x.open(0));
        });
        Check.that("23 rule: UNKNOWN, then FULL; nothing changes", c -> {
            RULES_FULL.refused(c, UNKNOWN, x -> x.rule(6, 0));
            RULES_FULL.refused(c, UNKNOWN, x -> x.rule(0, 6));
            RULES_FULL.refused(c, FULL, x -> x.rule(0, 0));
            RULES_FULL.refused(c, FULL, x -> x.rule(5, -1));
        });
    }

    private static void yes() {
        Check.that("24 yes: HANDS 0 to 5", c -> new Edge(c, HOUSE, (x, n) -> x.yes(n, -1)).taken(0, 2).taken(5, 2)
            .refused(UNKNOWN, -1, 6, 10, LEAST, MOST));
        Check.that("24 yes: to a PIECE that is SEEN in its BOOK, or -1", c -> {
            new Edge(c, HOUSE, (x, n) -> x.yes(0, n)).taken(-1, 2).taken(0, 2).taken(2, 2).taken(5, 2)
                .refused(NO, -2, 3, 8, 11, 6, 14, 15, 17, NEXT, 60, 64, LEAST, MOST);
            new Edge(c, HOUSE, (x, n) -> x.yes(1, n)).taken(15, 2).refused(NO, 3);
            new Edge(c, HOUSE, (x, n) -> x.yes(4, n)).taken(-1, 2).refused(NO, 0);
        });
        Check.that("24 yes: NO in a STRUCK PART; a PICTURE may be said YES to", c -> {
            int part = c.part(0);
            int picture = c.picture(0, part, 1);
            c.due(1, c.x.yes(0, picture));
            int strike = c.x.strike(0, part);
            c.due(NO, c.x.yes(0, picture));
            c.x.back(0, strike);
            c.due(2, c.x.yes(0, picture));
        });
        Check.that("24 yes: 20 at most are kept: the 20th counts, a 21st is not taken", c -> {
            int s = c.sentence(0, -1, 1);
            c.x.rule(1, s);
            for (int k = 1; k <= 19; k++) c.due(k, c.x.yes(0, s));
            c.x.give(0, 1, 60);
            c.due(1, c.x.open(0));
            c.due(20, c.x.yes(1, s));
            c.due(0, c.x.open(0));
            c.say(1, s, 2);
            c.due(1, c.x.open(1));
            c.due(FULL, c.x.yes(1, s));
            c.due(1, c.x.open(1));
            c.due(20, c.x.told(3));
        });
        Check.that("24 yes: UNKNOWN, then FULL, then NO; nothing changes", c -> {
            HOUSE.refused(c, UNKNOWN, x -> x.yes(6, 3));
            YESES_FULL.refused(c, UNKNOWN, x -> x.yes(-1, 0));
            YESES_FULL.refused(c, FULL, x -> x.yes(0, 3));
            YESES_FULL.refused(c, FULL, x -> x.yes(0, 0));
        });
    }

    private static void covers() {
        Check.that("yes: of a PIECE without WORDS: an empty row is covered by an empty row alone", c -> {
            int part = c.part(0);
            int s = c.sentence(0, part);
            c.x.rule(0, part);
            c.due(1, c.x.open(0));
            c.x.yes(0, part);
            c.due(0, c.x.open(0));
            c.say(0, s, 1);
            c.due(1, c.x.open(0));
            c.say(0, s);
            c.due(0, c.x.open(0));
        });
        Check.that("yes: of a PICTURE, and of an empty BOOK", c -> {
            c.x.rule(0, -1);
            c.due(1, c.x.open(0));
            c.x.yes(0, -1);
            c.due(0, c.x.open(0));
            int p = c.picture(0, -1, 1);
            c.x.rule(0, p);
            c.due(0, c.x.open(0));
            c.x.rule(1, p);
            c.due(4, c.x.open(0));
        });
        Check.that("yes: one word more, one less, another one at the first and at the last", c -> {
            int s = c.sentence(0, -1, 1, 2, 3);
            c.x.rule(0, s);
            c.x.yes(0, s);
            int[][] others = {{1, 2}, {2, 3}, {1, 2, 3, 4}, {4, 1, 2, 3}, {9, 2, 3}, {1, 2, 9}, {3, 2, 1}, {}};
            for (int[] row : others) {
                c.say(0, s, row);
                c.due(1, c.x.open(0));
            }
            c.say(0, s, 1, 2, 3);
            c.due(0, c.x.open(0));
        });
        Check.that("yes: to the SENTENCE itself, to a PART next to it, farther, to the BOOK; not to one beside it", c -> {
            for (int to = -1; to < 5; to++) {
                BookHouse x = new BookHouse();
                x.put(0, 0, -1, -1, 1);
                x.put(0, 0, 0, -1, 1);
                x.put(0, 1, 1, -1, 1);
                x.put(0, 1, 1, 2, 1);
                x.put(0, 0, -1, 0, 1);
                x.rule(0, 2);
                c.due(1, x.yes(0, to));
                c.due(to < 3 ? 0 : 1, x.open(0));
            }
        });
        Check.that("yes: to what is in it does not do for a PART, nor for the BOOK", c -> {
            int part = c.part(0);
            int s = c.sentence(0, part, 1);
            c.x.rule(0, part);
            c.x.rule(0, -1);
            c.x.yes(0, s);
            c.due(3, c.x.open(0));
            c.x.yes(0, part);
            c.due(2, c.x.open(0));
        });
        Check.that("yes: of its HAND alone", c -> {
            int s = c.sentence(0, -1, 1);
            c.x.rule(1, s);
            c.x.yes(0, s);
            c.due(1, c.x.open(0));
            c.x.give(0, 1, 60);
            c.x.yes(1, s);
            c.due(0, c.x.open(0));
            c.x.rule(0, -1);
            c.due(2, c.x.open(0));
        });
        Check.that("yes: the latest such one; one to a PIECE in which it is not there is none such", c -> {
            int a = c.part(0);
            int b = c.part(0);
            int s = c.sentence(0, a, 1);
            int t = c.sentence(0, b, 2);
            c.x.rule(0, s);
            c.x.yes(0, s);
            c.x.yes(0, b);
            c.say(0, t, 3);
            c.due(0, c.x.open(0));
            c.x.move(0, s, b, -1);
            // now the YES to b is the latest one to a PIECE in which it is: that said 2, and says 1 3
            c.due(1, c.x.open(0));
            c.x.yes(0, b);
            c.due(0, c.x.open(0));
        });
        Check.that("yes: of one that is not SEEN there the RULE is MET", c -> {
            int part = c.part(0);
            int s = c.sentence(0, part, 1);
            c.x.rule(3, s);
            c.due(1, c.x.open(0));
            c.due(0, c.x.open(3));
            int strike = c.x.strike(0, part);
            c.due(0, c.x.open(0));
            c.x.back(0, strike);
            c.x.strike(0, s);
            c.due(0, c.x.open(0));
        });
        Check.that("yes: it covers what was said then; FOLDS of later on count", c -> {
            int s = c.sentence(0, -1, 1, 2);
            c.x.rule(0, s);
            c.x.yes(0, s);
            c.say(0, s, 3, 4);
            c.x.fold(1, 3);
            c.due(1, c.x.open(0));
            c.x.fold(4, 2);
            c.due(0, c.x.open(0));
            c.say(0, s, 4, 3);
            c.due(1, c.x.open(0));
        });
    }

    private static void open() {
        Check.that("25 open: RULES as bits, the first as 1, the sixth as 32", c -> {
            int[] s = new int[6];
            for (int k = 0; k < 6; k++) {
                s[k] = c.sentence(0, -1, k + 1);
                c.x.rule(0, s[k]);
            }
            c.due(63, c.x.open(0));
            c.x.yes(0, s[0]);
            c.due(62, c.x.open(0));
            c.x.yes(0, s[5]);
            c.due(30, c.x.open(0));
            c.due(0, c.x.open(1));
        });
        Check.that("25 open: without RULES none is open", c -> {
            c.sentence(0, -1, 1);
            for (int hand = 0; hand < 6; hand++) c.due(0, c.x.open(hand));
        });
    }

    private static void fold() {
        Check.that("26 fold: WORDS 1 to 99, both, and not one and the same", c -> {
            new Edge(c, HOUSE, (x, n) -> x.fold(n, 50)).taken(1, 2).taken(99, 2)
                .refused(OUTSIDE, 0, 100, -1, 50, LEAST, MOST);
            new Edge(c, HOUSE, (x, n) -> x.fold(50, n)).taken(1, 2).taken(99, 2)
                .refused(OUTSIDE, 0, 100, -1, 50, LEAST, MOST);
        });
        Check.that("26 fold: of those that are alike already it counts too", c -> {
            HOUSE.due(c, 2, x -> x.fold(8, 9));
            HOUSE.due(c, 2, x -> x.fold(9, 8));
        });
        Check.that("26 fold: 8 at most: the 8th counts, a 9th does not", c -> {
            c.sentence(0, -1, 99, 50);
            for (int k = 1; k < 8; k++) c.due(k, c.x.fold(k, k + 1));
            c.pad(1, 1);
            c.due(0, c.x.seek(0, 1, -1));
            c.due(8, c.x.fold(8, 99));
            c.due(1, c.x.seek(0, 1, -1));
            c.due(FULL, c.x.fold(1, 50));
            c.due(1, c.x.seek(0, 1, -1));
            c.due(8, c.x.told(4));
        });
        Check.that("26 fold: all that hang together are alike, in whichever order they were told", c -> {
            int s = c.sentence(0, -1, 1);
            c.x.rule(0, s);
            c.x.yes(0, s);
            c.x.fold(4, 3);
            c.x.fold(1, 2);
            c.x.fold(5, 6);
            c.x.fold(3, 2);
            int[] alike = {1, 1, 1, 1, 0, 0, 0};
            for (int w = 1; w <= 7; w++) {
                c.say(0, s, w);
                c.due(1 - alike[w - 1], c.x.open(0));
            }
        });
        Check.that("26 fold: OUTSIDE, then FULL; nothing changes", c -> {
            FOLDS_FULL.refused(c, OUTSIDE, x -> x.fold(0, 1));
            FOLDS_FULL.refused(c, OUTSIDE, x -> x.fold(1, 100));
            FOLDS_FULL.refused(c, OUTSIDE, x -> x.fold(5, 5));
            FOLDS_FULL.refused(c, FULL, x -> x.fold(1, 99));
        });
    }

    public static void main(String[] args) {
        rule();
        yes();
        covers();
        open();
        fold();
        Check.end();
    }
}

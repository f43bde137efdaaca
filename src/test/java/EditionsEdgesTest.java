/** Edges of promises 33 to 39: which numbers are taken, what is refused, in which order. */
public final class EditionsEdgesTest {
    private static final int UNKNOWN = Check.UNKNOWN, OUTSIDE = Check.OUTSIDE, FULL = Check.FULL, NONE = Check.NONE,
        LEAST = Edge.LEAST, MOST = Edge.MOST;
    private static final Replay HOUSE = Houses.HOUSE, STATES_FULL = Houses.STATES_FULL,
        EDITIONS_FULL = Houses.EDITIONS_FULL;
    private static final int NEXT = Houses.NEXT;
    private static final int[] NOT_SEEN = {-1, 3, 6, 8, 11, 14, 15, 17, NEXT, 60, 64, LEAST, MOST};

    private static void edition() {
        Check.that("33 edition: SOURCES, also one that has nothing", c -> {
            new Edge(c, HOUSE, (x, n) -> x.edition(n, 0, 20, 10)).taken(0, 1).taken(5, 1).taken(10, 1)
                .refused(UNKNOWN, -1, 6, 9, 11, 18, LEAST, MOST);
            new Edge(c, STATES_FULL, (x, n) -> x.edition(n, 0, 20, 10)).taken(17, 1).refused(UNKNOWN, 18);
            c.due(0, c.x.edition(5, 0, 20, 10));
            c.due(0, c.x.pages(0, 0));
        });
        Check.that("33 edition: TONGUES 0 to 2", c -> new Edge(c, HOUSE, (x, n) -> x.edition(0, n, 20, 10))
            .taken(0, 1).taken(1, 1).taken(2, 1).refused(UNKNOWN, -1, 3, LEAST, MOST));
        Check.that("33 edition: W 10 to 60 points", c -> new Edge(c, HOUSE, (x, n) -> x.edition(0, 0, n, 10))
            .taken(10, 1).taken(60, 1).refused(OUTSIDE, 9, 61, 0, -1, LEAST, MOST));
        Check.that("33 edition: H 10 to 20 lines", c -> new Edge(c, HOUSE, (x, n) -> x.edition(0, 0, 20, n))
            .taken(10, 1).taken(20, 1).refused(OUTSIDE, 9, 21, 0, -1, LEAST, MOST));
        Check.that("33 edition: 6 at most: the 6th is told of, a 7th is not made", c -> {
            c.part(0);
            for (int e = 0; e < 6; e++) c.due(e, c.x.edition(0, e % 3, 10 + e, 10));
            c.due(FULL, c.x.edition(0, 0, 10, 10));
            c.due(1, c.x.pages(5, 0));
            c.due(UNKNOWN, c.x.pages(6, 0));
            c.due(6, c.x.told(7));
        });
        Check.that("33 edition: UNKNOWN, then OUTSIDE, then FULL; nothing changes", c -> {
            EDITIONS_FULL.refused(c, UNKNOWN, x -> x.edition(6, 0, 9, 9));
            EDITIONS_FULL.refused(c, UNKNOWN, x -> x.edition(0, 3, 61, 10));
            EDITIONS_FULL.refused(c, OUTSIDE, x -> x.edition(0, 0, 61, 10));
            EDITIONS_FULL.refused(c, OUTSIDE, x -> x.edition(0, 0, 10, 21));
            EDITIONS_FULL.refused(c, FULL, x -> x.edition(0, 0, 10, 10));
            HOUSE.refused(c, UNKNOWN, x -> x.edition(0, -1, 20, 9));
        });
        Check.that("33 edition: the set of the SOURCE then: what comes and goes later is not in it", c -> {
            int s = c.sentence(0, -1, 1);
            c.x.edition(0, 0, 10, 10);
            int t = c.sentence(0, -1, 2);
            c.x.strike(0, s);
            c.due(1, c.x.onPage(0, s, 0));
            c.due(UNKNOWN, c.x.onPage(0, t, 0));
            c.due(1, c.x.index(0, 1, -1));
            c.due(0, c.x.index(0, 2, -1));
        });
    }

    private static void pages() {
        Check.that("34 pages: EDITIONS that were made", c -> {
            new Edge(c, HOUSE, (x, n) -> x.pages(n, 0)).asked(0, 1).refused(UNKNOWN, -1, 1, 5, 6, LEAST, MOST);
            new Edge(c, EDITIONS_FULL, (x, n) -> x.pages(n, 0)).asked(5, 1).refused(UNKNOWN, 6);
        });
        Check.that("34 pages: what 0 to 5", c -> new Edge(c, HOUSE, (x, n) -> x.pages(0, n))
            .asked(0, 1).asked(1, 2).asked(2, 0).asked(3, 2).asked(4, 0).asked(5, 0)
            .refused(OUTSIDE, -1, 6, LEAST, MOST));
        Check.that("34 pages: UNKNOWN, then OUTSIDE", c -> HOUSE.refused(c, UNKNOWN, x -> x.pages(1, 6)));
    }

    private static void onPage() {
        Check.that("35 onPage: EDITIONS that were made", c -> {
            new Edge(c, HOUSE, (x, n) -> x.onPage(n, 0, 0)).asked(0, 1).refused(UNKNOWN, -1, 1, 6, LEAST, MOST);
            new Edge(c, EDITIONS_FULL, (x, n) -> x.onPage(n, 14, 0)).asked(5, 1).refused(UNKNOWN, 0, 6);
        });
        Check.that("35 onPage: PIECES that are SEEN there", c -> new Edge(c, HOUSE, (x, n) -> x.onPage(0, n, 0))
            .asked(0, 1).asked(1, 1).asked(2, 1).asked(4, 1).asked(5, 1).refused(UNKNOWN, NOT_SEEN));
        Check.that("35 onPage: what 0 to 3", c -> {
            new Edge(c, HOUSE, (x, n) -> x.onPage(0, 1, n)).asked(0, 1).asked(1, 1).asked(2, 1).asked(3, 1)
                .refused(OUTSIDE, -1, 4, LEAST, MOST);
            new Edge(c, HOUSE, (x, n) -> x.onPage(0, 2, n)).asked(0, 1).asked(1, 0).asked(2, 1).asked(3, NONE)
                .refused(OUTSIDE, -1, 4);
        });
        Check.that("35 onPage: UNKNOWN, then OUTSIDE", c -> {
            HOUSE.refused(c, UNKNOWN, x -> x.onPage(1, 0, 4));
            HOUSE.refused(c, UNKNOWN, x -> x.onPage(0, 3, 4));
        });
    }

    private static void line() {
        Check.that("36 line: EDITIONS that were made", c -> {
            new Edge(c, HOUSE, (x, n) -> x.line(n, 1, 0)).asked(0, 4).refused(UNKNOWN, -1, 1, 6, LEAST, MOST);
            new Edge(c, EDITIONS_FULL, (x, n) -> x.line(n, 1, 0)).asked(5, 3).refused(UNKNOWN, 6);
        });
        Check.that("36 line: PIECES that are SEEN there; NONE of one that is no SENTENCE, or has no LINES", c ->
            new Edge(c, HOUSE, (x, n) -> x.line(0, n, 0)).asked(1, 4).asked(5, 2).asked(0, NONE).asked(2, NONE)
                .asked(4, NONE).refused(UNKNOWN, NOT_SEEN));
        Check.that("36 line: i from 0 to the last LINE", c -> {
            new Edge(c, HOUSE, (x, n) -> x.line(0, 1, n)).asked(0, 4).asked(1, NONE).asked(-1, NONE)
                .asked(LEAST, NONE).asked(MOST, NONE);
            Replay narrow = HOUSE.then(x -> x.edition(0, 0, 10, 10));
            // 6 and 7 wide, then 1 wide and the number
            new Edge(c, narrow, (x, n) -> x.line(1, 1, n)).asked(0, 1).asked(1, 2).asked(2, 1).asked(3, NONE);
        });
    }

    private static void index() {
        Check.that("37 index: EDITIONS that were made", c -> {
            new Edge(c, HOUSE, (x, n) -> x.index(n, 5, 0)).asked(0, 1).refused(UNKNOWN, -1, 1, 6, LEAST, MOST);
            new Edge(c, EDITIONS_FULL, (x, n) -> x.index(n, 8, 0)).asked(5, 1).refused(UNKNOWN, 6);
        });
        Check.that("37 index: WORDS 1 to 99", c -> {
            new Edge(c, HOUSE, (x, n) -> x.index(0, n, -1)).asked(1, 0).asked(5, 1).asked(8, 0).asked(99, 0)
                .refused(OUTSIDE, 0, 100, -1, LEAST, MOST);
            Replay ends = new Replay(x -> {
                x.put(0, 1, -1, -1, 1);
                Houses.words(x, 0, 0, 1, 99);
                x.edition(0, 0, 10, 10);
            });
            new Edge(c, ends, (x, n) -> x.index(0, n, 0)).asked(1, 1).asked(99, 1).asked(2, NONE).asked(98, NONE);
        });
        Check.that("37 index: i from -1 to the last page", c -> new Edge(c, HOUSE, (x, n) -> x.index(0, 5, n))
            .asked(-1, 1).asked(0, 1).asked(1, NONE).asked(-2, NONE).asked(LEAST, NONE).asked(MOST, NONE));
        Check.that("37 index: UNKNOWN, then OUTSIDE", c -> {
            HOUSE.refused(c, UNKNOWN, x -> x.index(1, 0, -1));
            HOUSE.refused(c, UNKNOWN, x -> x.index(-1, 100, 0));
        });
    }

    private static void reach() {
        Check.that("38 reach: EDITIONS that were made", c -> {
            new Edge(c, HOUSE, (x, n) -> x.reach(n, 1, 0)).asked(0, 2).refused(UNKNOWN, -1, 1, 6, LEAST, MOST);
            new Edge(c, EDITIONS_FULL, (x, n) -> x.reach(n, 1, 0)).asked(5, 0).refused(UNKNOWN, 6);
        });
        Check.that("38 reach: SOURCES", c -> {
            new Edge(c, HOUSE, (x, n) -> x.reach(0, n, 0)).asked(0, 0).asked(1, 2).asked(5, 5).asked(10, 0)
                .refused(UNKNOWN, -1, 6, 9, 11, 18, LEAST, MOST);
            new Edge(c, STATES_FULL, (x, n) -> x.reach(0, n, 0)).asked(17, 2).refused(UNKNOWN, 18);
        });
        Check.that("38 reach: what 0 to 4", c -> {
            new Edge(c, HOUSE, (x, n) -> x.reach(0, 1, n)).asked(0, 2).asked(1, 1).asked(2, 1).asked(3, NONE)
                .asked(4, 1).refused(OUTSIDE, -1, 5, LEAST, MOST);
            new Edge(c, HOUSE, (x, n) -> x.reach(0, 5, n)).asked(0, 5).asked(1, 0).asked(2, 0).asked(3, 1).asked(4, 1);
        });
        Check.that("38 reach: UNKNOWN, then OUTSIDE", c -> {
            HOUSE.refused(c, UNKNOWN, x -> x.reach(1, 0, 5));
            HOUSE.refused(c, UNKNOWN, x -> x.reach(0, 11, 5));
        });
        Check.that("38 reach: of what it is made of itself, nothing is otherwise", c -> {
            for (int k = 0; k <= 4; k++) {
                int what = k;
                HOUSE.asked(c, k == 3 ? NONE : 0, x -> x.reach(0, 0, what));
            }
        });
        Check.that("38 reach: SENTENCES that get WORDS, or lose them, are SAID otherwise; PARTS never", c -> {
            int part = c.part(0);
            int s = c.sentence(0, part);
            c.x.edition(0, 0, 10, 10);
            c.x.note(0, s, 3);
            c.due(0, c.x.reach(0, 0, 1));
            c.say(0, s, 1);
            c.due(1, c.x.reach(0, 0, 1));
            c.x.edition(0, 0, 10, 10);
            c.say(0, s);
            c.due(0, c.x.reach(0, 0, 1));
            c.due(1, c.x.reach(1, 0, 1));
            c.due(0, c.x.reach(1, 0, 0));
        });
        Check.that("38 reach: the very first PIECE: gone, SAID otherwise, with another number", c -> {
            int s = c.x.put(0, 1, -1, -1, 1);
            int p = c.x.put(0, 2, -1, s, 9);
            int q = c.x.put(0, 2, -1, p, 9);
            c.say(0, s, 1);
            c.x.tie(0, s, q);
            c.x.edition(0, 0, 10, 10);
            c.x.tie(0, s, p);
            c.due(1, c.x.reach(0, 0, 2));
            c.due(0, c.x.reach(0, 0, 1));
            c.say(0, s, 2);
            c.due(1, c.x.reach(0, 0, 1));
            c.due(0, c.x.reach(0, 0, 0));
            c.x.strike(0, s);
            c.due(1, c.x.reach(0, 0, 0));
            c.due(0, c.x.reach(0, 0, 1));
            c.due(0, c.x.reach(0, 0, 2));
            c.due(1, c.x.reach(0, 0, 3));
        });
        Check.that("38 reach: another number of the same TIE, and a TIE to another page; not one to the same page", c -> {
            int part = c.part(0);
            int s = c.sentence(0, part);
            int p = c.picture(0, -1, 9);
            int q = c.picture(0, -1, 9);
            c.x.tie(0, s, p);
            c.x.edition(0, 0, 10, 10);
            c.due(2, c.x.onPage(0, s, 3));
            c.x.tie(0, s, q);
            c.due(1, c.x.reach(0, 0, 2));
            c.x.move(0, q, -1, part);
            // p is on page 3 now, q on 2
            c.due(0, c.x.reach(0, 0, 2));
            c.x.tie(0, s, p);
            c.due(1, c.x.reach(0, 0, 2));
            c.due(2, c.x.reach(0, 0, 0));
            c.due(2, c.x.reach(0, 0, 3));
        });
        Check.that("38 reach: the first page is that in the EDITION; of PIECES that are new there is none", c -> {
            for (int k = 0; k < 3; k++) c.picture(0, -1, 9);
            c.x.edition(0, 0, 10, 10);
            c.x.give(0, 1, 60);
            c.x.strike(0, 2);
            c.due(1, c.x.reach(0, 0, 0));
            c.due(3, c.x.reach(0, 0, 3));
            int add = c.x.put(1, 0, -1, 2, 1);
            c.due(1, c.x.reach(0, 1, 0));
            c.due(NONE, c.x.reach(0, 1, 3));
            c.x.move(1, add, -1, -1);
            c.x.put(1, 0, -1, -1, 1);
            c.due(5, c.x.reach(0, 1, 0));
            c.due(1, c.x.reach(0, 1, 3));
        });
        Check.that("38 reach: RULES that are MET in both, in none, there alone do not count", c -> {
            int s = c.sentence(0, -1, 1);
            int t = c.sentence(0, -1, 2);
            c.x.yes(0, s);
            c.x.rule(0, s);
            c.x.rule(1, s);
            c.x.rule(1, t);
            c.x.edition(0, 0, 10, 10);
            c.due(0, c.x.reach(0, 0, 4));
            c.x.strike(0, t);
            c.due(0, c.x.reach(0, 0, 4));
            c.say(0, s, 3);
            c.due(1, c.x.reach(0, 0, 4));
        });
    }

    private static void told() {
        Check.that("39 told: what 0 to 8, 10 to 15, 20 to 25", c -> new Edge(c, HOUSE, (x, n) -> x.told(n))
            .asked(0, NEXT).asked(1, 1).asked(2, 2).asked(3, 1).asked(4, 1).asked(5, 1).asked(6, 1).asked(7, 1).asked(8, 0)
            .asked(10, 15).asked(11, 16).asked(12, 0).asked(15, 0).asked(20, 2).asked(21, 0).asked(25, 1)
            .refused(OUTSIDE, -1, 9, 16, 19, 26, 30, LEAST, MOST));
        Check.that("39 told: of full rows", c -> {
            Houses.CHANGES_FULL.asked(c, 60, x -> x.told(0));
            Houses.STATES_FULL.asked(c, 8, x -> x.told(1));
            Houses.RULES_FULL.asked(c, 6, x -> x.told(2));
            Houses.YESES_FULL.asked(c, 20, x -> x.told(3));
            Houses.FOLDS_FULL.asked(c, 8, x -> x.told(4));
            Houses.PAIRS_FULL.asked(c, 24, x -> x.told(5));
            Houses.TERMS_FULL.asked(c, 6, x -> x.told(6));
            EDITIONS_FULL.asked(c, 6, x -> x.told(7));
            Houses.PAD_FULL.asked(c, 8, x -> x.told(20));
            HOUSE.then(x -> x.firm(1)).asked(c, 1, x -> x.told(8));
            Houses.CHANGES_FULL.asked(c, 60 - 3, x -> x.told(10));
        });
    }

    public static void main(String[] args) {
        edition();
        pages();
        onPage();
        line();
        index();
        reach();
        told();
        Check.end();
    }
}

/** Edges of SAY, BACK and CLASHES (3 of the terms), and of promises 21 and 22. */
public final class ClashesEdgesTest {
    private static final int UNKNOWN = Check.UNKNOWN, OUTSIDE = Check.OUTSIDE, FULL = Check.FULL, NO = Check.NO,
        NONE = Check.NONE, LEAST = Edge.LEAST, MOST = Edge.MOST;
    private static final Replay HOUSE = Houses.HOUSE, ONE_LEFT = Houses.ONE_LEFT, ALL_MADE = Houses.CHANGES_FULL;
    private static final int NEXT = Houses.NEXT;
    // both have every KIND upon 1, and hand 0 a STRIKE of it, too
    private static final Replay CLASHING = HOUSE.then(x -> {
        x.move(0, 1, -1, 0);
        x.move(1, 1, -1, -1);
        Houses.words(x, 0, 1, 1);
        x.note(1, 1, 3);
        x.tie(1, 1, 0);
        x.strike(0, 1);
    });

    private static void say() {
        Check.that("say: of PUT while the PIECE is not STRUCK itself, be it SEEN or not", c -> {
            int a = c.part(0);
            int s = c.sentence(0, a);
            c.x.strike(0, a);
            c.due(0, c.x.say(0, a));
            c.due(1, c.x.say(0, s));
            c.due(0, c.x.say(1, s));
        });
        Check.that("say: of STRIKE till another STRIKE, a RAISE, MOVE or WORDS that come later", c -> {
            for (int kind = 0; kind < 7; kind++) {
                BookHouse x = new BookHouse();
                x.put(0, 1, -1, -1, 1);
                x.keep(0);
                x.strike(0, 0);
                if (kind == 1) x.strike(0, 0);
                if (kind == 2) x.settle(0, 0, 4, 10);
                if (kind == 3) x.move(0, 0, -1, -1);
                if (kind == 4) x.words(0, 0);
                if (kind == 5) x.note(0, 0, 1);
                if (kind == 6) x.tie(0, 0, 0);
                boolean isLatest = kind == 0 || kind > 4;
                c.due(isLatest ? 1 : 0, x.say(0, 1));
                x.firm(1);
                c.due(isLatest || kind > 2 ? 1 : 0, x.say(0, 1));
                c.due(1 - x.piece(0, 0, 1), x.say(0, 0));
            }
        });
        Check.that("say: of another PIECE, and of another KIND, takes it from none", c -> {
            int s = c.sentence(0, -1);
            int t = c.sentence(0, -1);
            int[] changes = {c.x.strike(0, s), c.x.note(0, s, 1), c.x.tie(0, s, t)};
            c.x.strike(0, t);
            c.x.note(0, t, 1);
            c.x.tie(0, t, s);
            c.x.move(0, t, -1, -1);
            c.say(0, t, 1);
            for (int change : changes) c.due(1, c.x.say(0, change));
            int move = c.x.move(0, s, -1, -1);
            int words = c.say(0, s, 1);
            c.due(1, c.x.say(0, move));
            c.due(1, c.x.say(0, words));
            c.due(0, c.x.say(0, changes[0]));
            c.due(1, c.x.say(0, changes[1]));
        });
        Check.that("say: the latest of each KIND alone, in a SOURCE that has it", c -> {
            int s = c.sentence(0, -1);
            int[] first = {c.x.move(0, s, -1, -1), c.say(0, s, 1), c.x.note(0, s, 1), c.x.tie(0, s, s)};
            c.x.give(0, 1, 60);
            int[] next = {c.x.move(0, s, -1, -1), c.say(0, s, 1), c.x.note(0, s, 1), c.x.tie(0, s, s)};
            for (int k = 0; k < 4; k++) {
                c.due(0, c.x.say(0, first[k]));
                c.due(1, c.x.say(0, next[k]));
                c.due(1, c.x.say(1, first[k]));
                c.due(0, c.x.say(1, next[k]));
            }
        });
        Check.that("say: STRIKES and RAISES that the SOURCE has not take it from none", c -> {
            int s = c.sentence(0, -1);
            int strike = c.x.strike(0, s);
            c.x.give(0, 1, 60);
            int raise = c.x.back(1, strike);
            c.due(1, c.x.say(0, strike));
            c.due(0, c.x.say(1, strike));
            int again = c.x.strike(1, s);
            c.due(1, c.x.say(0, strike));
            c.due(0, c.x.say(0, again));
            c.due(1, c.x.say(1, again));
            c.due(0, c.x.say(1, raise));
        });
        Check.that("say: RAISE never", c -> {
            int s = c.sentence(0, -1);
            int strike = c.x.strike(0, s);
            int raise = c.x.back(0, strike);
            c.due(0, c.x.say(0, raise));
            c.due(0, c.x.came(0, raise));
            c.due(NO, c.x.back(0, raise));
        });
    }

    private static void dueBack(Check.Case c, int hand, int move, int piece, int under, int behind) {
        int b = c.x.back(hand, move);
        c.due(piece, c.x.change(b, 3));
        c.due(under, c.x.change(b, 4));
        c.due(behind, c.x.change(b, 5));
    }

    private static void back() {
        Check.that("back: of PUT a STRIKE, of STRIKE a RAISE, of others their KIND, upon the PIECE, by the HAND", c -> {
            int[] kindOf = {1, 6, 2, 3, 4, 5};
            for (int kind = 0; kind < 6; kind++) {
                BookHouse x = new BookHouse();
                x.put(0, 1, -1, -1, 1);
                if (kind == 1) x.strike(0, 0);
                if (kind == 2) x.move(0, 0, -1, -1);
                if (kind == 3) x.words(0, 0);
                if (kind == 4) x.note(0, 0, 1);
                if (kind == 5) x.tie(0, 0, 0);
                x.give(0, 4, 60);
                int b = x.back(4, kind == 0 ? 0 : 1);
                c.due(kind == 0 ? 1 : 2, b);
                c.due(kindOf[kind], x.change(b, 0));
                c.due(4, x.change(b, 1));
                c.due(0, x.change(b, 3));
                c.due(NONE, x.change(b, 6));
                c.due(NONE, x.change(b, 7));
            }
        });
        Check.that("back: of a MOVE: first in the BOOK, first in a PART, behind a STRUCK one", c -> {
            int a = c.part(0);
            int s = c.sentence(0, a);
            int t = c.sentence(0, a);
            c.x.strike(0, s);
            dueBack(c, 0, c.x.move(0, a, -1, -1), a, -1, -1);
            dueBack(c, 0, c.x.move(0, t, -1, -1), t, a, s);
            c.due(1, c.x.piece(0, s, 1));
            dueBack(c, 0, c.x.move(0, s, -1, a), s, a, -1);
            c.dueSeen(0, a, s, t);
        });
        Check.that("back: just ahead of it as that BOOK is worked: by STAMPS, of what the HAND has alone", c -> {
            int s = c.sentence(0, -1);
            c.x.note(0, s, 1);
            c.x.give(0, 1, 60);
            int between = c.x.note(0, s, 2);
            c.x.strike(1, s);
            int late = c.x.note(1, s, 3);
            // hand 1 has not what is between
            c.due(1, c.x.change(c.x.back(1, late), 4));
            c.x.give(0, 2, 60);
            c.x.give(1, 2, 2);
            c.due(1, c.x.say(2, late));
            c.due(0, c.x.say(2, between));
            c.due(2, c.x.change(c.x.back(2, late), 4));
        });
        Check.that("back: a CHANGE of others that the HAND has not is no neighbour, be it the very first", c -> {
            c.sentence(0, -1);
            int part = c.x.put(1, 0, -1, -1, 1);
            int in = c.x.put(1, 1, part, -1, 1);
            int last = c.x.put(1, 1, -1, in, 1);
            c.due(part, c.x.piece(1, last, 4));
            dueBack(c, 1, c.x.move(1, last, part, -1), last, -1, part);
        });
        Check.that("back: of WORDS to none, to eight; the PAD stays as it is", c -> {
            int s = c.sentence(0, -1);
            int one = c.say(0, s, 1, 2, 3, 4, 5, 6, 7, 8);
            c.pad(0, 9);
            int none = c.x.back(0, one);
            c.due(0, c.x.change(none, 4));
            c.dueWords(0, s);
            int eight = c.x.back(0, none);
            c.due(8, c.x.change(eight, 4));
            c.dueWords(0, s, 1, 2, 3, 4, 5, 6, 7, 8);
            c.due(1, c.x.told(20));
        });
        Check.that("back: a MOVE or WORDS that are taken back raise the PIECE, if FIRM is 0", c -> {
            int s = c.sentence(0, -1);
            int move = c.x.move(0, s, -1, -1);
            c.x.strike(0, s);
            c.due(1, c.x.say(0, move));
            c.x.back(0, move);
            c.due(0, c.x.piece(0, s, 1));
            c.x.firm(1);
            c.due(1, c.x.piece(0, s, 1));
        });
    }

    private static void clash() {
        Check.that("21 clash: SOURCES, both; UNKNOWN of each", c -> {
            new Edge(c, CLASHING, (x, n) -> x.clash(n, 1, -1)).asked(0, 5).asked(1, 0).asked(5, 0).asked(10, 0)
                .refused(UNKNOWN, -1, 6, 9, 11, LEAST, MOST);
            new Edge(c, CLASHING, (x, n) -> x.clash(0, n, -1)).asked(0, 0).asked(1, 5).asked(5, 0).asked(10, 0)
                .refused(UNKNOWN, -1, 6, 9, 11, LEAST, MOST);
        });
        Check.that("21 clash: i from -1 to the last one", c -> new Edge(c, CLASHING, (x, n) -> x.clash(0, 1, n))
            .asked(-1, 5).asked(0, 10).asked(1, 11).asked(2, 12).asked(3, 13).asked(4, 14).asked(5, NONE)
            .asked(-2, NONE).asked(LEAST, NONE).asked(MOST, NONE));
        Check.that("21 clash: none between a SOURCE and itself, or one that has no more", c -> {
            CLASHING.asked(c, 0, x -> x.clash(0, 0, -1));
            CLASHING.asked(c, NONE, x -> x.clash(0, 0, 0));
            CLASHING.asked(c, 0, x -> x.clash(0, 10, -1));
            CLASHING.asked(c, 0, x -> x.clash(3, 1, -1));
        });
        Check.that("21 clash: each KIND of the one with each KIND of the other", c -> {
            // KINDS of CHANGES 1 to 5; the CLASH that they make, or -1
            int[][] due = {{-1, 4, 4, -1, -1}, {4, 0, -1, -1, -1}, {4, -1, 1, -1, -1}, {-1, -1, -1, 2, -1},
                {-1, -1, -1, -1, 3}};
            for (int mine = 0; mine < 5; mine++) {
                for (int theirs = 0; theirs < 5; theirs++) {
                    BookHouse x = new BookHouse();
                    x.put(0, 1, -1, -1, 1);
                    x.give(0, 1, 60);
                    make(x, 0, mine + 1);
                    make(x, 1, theirs + 1);
                    int want = due[mine][theirs];
                    c.due(want < 0 ? 0 : 1, x.clash(0, 1, -1));
                    c.due(want < 0 ? NONE : want, x.clash(0, 1, 0));
                }
            }
        });
        Check.that("21 clash: upon one PIECE alone; of the last PIECE that there can be", c -> {
            for (int k = 0; k < 58; k++) c.x.put(0, 1, -1, -1, 1);
            c.x.give(0, 1, 60);
            c.due(58, c.x.note(0, 57, 1));
            c.due(59, c.x.note(1, 57, 1));
            c.due(1, c.x.clash(0, 1, -1));
            c.due(572, c.x.clash(0, 1, 0));
            BookHouse y = new BookHouse();
            y.put(0, 1, -1, -1, 1);
            y.put(0, 1, -1, -1, 1);
            y.give(0, 1, 60);
            y.note(0, 0, 1);
            y.note(1, 1, 1);
            c.due(0, y.clash(0, 1, -1));
        });
    }

    private static void make(BookHouse x, int hand, int kind) {
        if (kind == 1) x.strike(hand, 0);
        if (kind == 2) x.move(hand, 0, -1, -1);
        if (kind == 3) x.words(hand, 0);
        if (kind == 4) x.note(hand, 0, 1);
        if (kind == 5) x.tie(hand, 0, -1);
    }

    private static void settle() {
        Check.that("22 settle: HANDS 0 to 5, SOURCES", c -> {
            Replay five = HOUSE.then(x -> x.give(0, 5, 60));
            new Edge(c, five, (x, n) -> x.settle(n, 1, 1, 10)).taken(0, NEXT).taken(5, NEXT)
                .refused(UNKNOWN, -1, 6, 10, LEAST, MOST);
            new Edge(c, HOUSE, (x, n) -> x.settle(0, 1, 1, n)).taken(0, NEXT).taken(1, NEXT).taken(10, NEXT)
                .refused(NO, 5).refused(UNKNOWN, -1, 6, 9, 11, 18, LEAST, MOST);
            new Edge(c, Houses.STATES_FULL, (x, n) -> x.settle(0, 1, 1, n)).taken(17, NEXT).refused(UNKNOWN, 18);
        });
        Check.that("22 settle: KIND 0 to 4", c -> new Edge(c, HOUSE, (x, n) -> x.settle(0, 1, n, 1))
            .taken(0, NEXT).taken(1, NEXT).taken(2, NEXT).taken(3, NEXT).taken(4, NEXT)
            .refused(OUTSIDE, -1, 5, LEAST, MOST));
        Check.that("22 settle: NO if the PIECE is not THERE in one of both", c -> {
            new Edge(c, HOUSE, (x, n) -> x.settle(0, n, 4, 1)).taken(0, NEXT).taken(3, NEXT).taken(11, NEXT)
                .refused(NO, -1, 6, 14, 15, 17, NEXT, 60, 64, LEAST, MOST);
            new Edge(c, HOUSE, (x, n) -> x.settle(1, n, 4, 0)).taken(0, NEXT).refused(NO, 14, 15);
        });
        Check.that("22 settle: NO of KINDS 1 to 3, if it is no SENTENCE; not of 0 and 4", c -> {
            for (int k = 1; k <= 3; k++) {
                int kind = k;
                new Edge(c, HOUSE, (x, n) -> x.settle(0, n, kind, 1)).taken(1, NEXT).taken(2, NEXT).taken(8, NEXT)
                    .refused(NO, 0, 3, 11);
            }
            new Edge(c, HOUSE, (x, n) -> x.settle(0, 3, n, 1)).taken(0, NEXT).taken(4, NEXT).refused(NO, 1, 2, 3);
        });
        Check.that("22 settle: NO if the PART where it goes is not in the HAND's BOOK, or is it, or in it", c -> {
            Replay away = HOUSE.then(x -> {
                x.move(1, 2, 14, -1);
                x.move(1, 4, 11, -1);
                x.move(1, 0, 4, -1);
                x.move(0, 11, 0, -1);
            });
            new Edge(c, away, (x, n) -> x.settle(0, n, 0, 1)).refused(NO, 2, 0).taken(4, NEXT + 4).taken(1, NEXT + 4);
            // 11 is in 0: where 4 goes is in 0, not in 4 itself
            away.due(c, 11, x -> x.change(x.settle(0, 4, 0, 1), 4));
            Replay into = HOUSE.then(x -> {
                x.move(1, 11, 4, -1);
                x.move(0, 4, 11, -1);
            });
            into.refused(c, NO, x -> x.settle(0, 11, 0, 1));
            Replay itself = HOUSE.then(x -> x.move(1, 11, 4, -1));
            new Edge(c, itself, (x, n) -> x.settle(0, n, 0, 1)).taken(11, NEXT + 1).taken(4, NEXT + 1);
        });
        Check.that("22 settle: the PART where it goes may be the BOOK, or STRUCK", c -> {
            Replay struck = HOUSE.then(x -> x.move(1, 1, 11, -1));
            struck.due(c, 11, x -> x.change(x.settle(0, 1, 0, 1), 4));
            Replay book = HOUSE.then(x -> x.move(1, 1, -1, -1));
            book.due(c, -1, x -> x.change(x.settle(0, 1, 0, 1), 4));
            book.due(c, -1, x -> x.change(x.settle(0, 1, 0, 1), 5));
        });
        Check.that("22 settle: what it goes behind is not THERE, or elsewhere: then behind all", c -> {
            Replay behind = HOUSE.then(x -> x.move(1, 1, -1, 14));
            behind.due(c, 11, x -> {
                x.settle(0, 1, 0, 1);
                return x.piece(0, 1, 4);
            });
            Replay elsewhere = HOUSE.then(x -> {
                x.move(1, 1, -1, 0);
                x.move(0, 2, -1, -1);
                x.move(0, 0, 11, -1);
            });
            elsewhere.due(c, 11, x -> {
                x.settle(0, 1, 0, 1);
                return x.piece(0, 1, 4);
            });
        });
        Check.that("22 settle: WORDS of none and of eight, NOTE 0, TIE to none", c -> {
            Replay none = HOUSE.then(x -> x.words(1, 1));
            none.due(c, 0, x -> x.change(x.settle(0, 1, 1, 1), 4));
            none.due(c, 0, x -> {
                x.settle(0, 1, 1, 1);
                return x.piece(0, 1, 6);
            });
            none.due(c, 2, x -> {
                x.settle(0, 1, 1, 1);
                return x.told(20);
            });
            Replay eight = HOUSE.then(x -> Houses.words(x, 1, 1, 1, 2, 3, 4, 5, 6, 7, 8));
            eight.due(c, 8, x -> x.change(x.settle(0, 1, 1, 1), 4));
            HOUSE.due(c, 0, x -> x.change(x.settle(0, 1, 2, 1), 4));
            HOUSE.due(c, 2, x -> x.change(x.settle(1, 1, 2, 0), 4));
            HOUSE.due(c, -1, x -> x.change(x.settle(0, 1, 3, 1), 4));
            HOUSE.due(c, 5, x -> x.change(x.settle(1, 1, 3, 0), 4));
        });
        Check.that("22 settle: the 60th CHANGE is made, no 61st, of each KIND", c -> {
            for (int k = 0; k <= 4; k++) {
                int kind = k;
                ONE_LEFT.due(c, 59, x -> x.settle(0, 1, kind, 1));
                ALL_MADE.refused(c, FULL, x -> x.settle(0, 1, kind, 1));
            }
        });
        Check.that("22 settle: UNKNOWN, then OUTSIDE, then FULL, then NO; nothing changes", c -> {
            ALL_MADE.refused(c, UNKNOWN, x -> x.settle(6, 14, 5, 0));
            ALL_MADE.refused(c, UNKNOWN, x -> x.settle(0, 14, 5, 6));
            ALL_MADE.refused(c, OUTSIDE, x -> x.settle(0, 14, 5, 0));
            HOUSE.refused(c, OUTSIDE, x -> x.settle(0, 14, -1, 0));
            ALL_MADE.refused(c, FULL, x -> x.settle(0, 14, 0, 0));
            ALL_MADE.refused(c, FULL, x -> x.settle(0, 0, 1, 0));
        });
    }

    public static void main(String[] args) {
        say();
        back();
        clash();
        settle();
        Check.end();
    }
}

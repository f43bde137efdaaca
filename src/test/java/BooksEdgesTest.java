/** Edges of how a BOOK is worked (2 of the terms), and of promises 16 to 20. */
public final class BooksEdgesTest {
    private static final int UNKNOWN = Check.UNKNOWN, OUTSIDE = Check.OUTSIDE, STATE = Check.STATE, NONE = Check.NONE,
        LOST = Check.LOST, LEAST = Edge.LEAST, MOST = Edge.MOST;
    private static final Replay HOUSE = Houses.HOUSE, STATES_FULL = Houses.STATES_FULL;
    private static final int NEXT = Houses.NEXT;

    private static void puts() {
        Check.that("book: PUT first, where nothing is, and where something is", c -> {
            int a = c.x.put(0, 0, -1, -1, 1);
            c.dueSeen(0, a);
            int b = c.x.put(0, 1, -1, -1, 1);
            c.dueSeen(0, b, a);
            int d = c.x.put(0, 1, a, -1, 1);
            c.dueSeen(0, b, a, d);
            c.dueSeen(1);
        });
        Check.that("book: PUT behind one of another PART goes behind all others, be they none, one or two", c -> {
            int a = c.x.put(0, 0, -1, -1, 1);
            int b = c.x.put(0, 1, a, a, 1);
            c.due(-1, c.x.piece(0, b, 4));
            int d = c.x.put(0, 1, a, a, 1);
            c.due(b, c.x.piece(0, d, 4));
            int e = c.x.put(0, 1, a, a, 1);
            c.due(d, c.x.piece(0, e, 4));
            int f = c.x.put(0, 1, -1, b, 1);
            c.due(a, c.x.piece(0, f, 4));
            c.dueSeen(0, a, b, d, e, f);
        });
        Check.that("book: PUT directly behind the PIECE told, if that is under the same PART then", c -> {
            int part = c.part(0);
            int a = c.sentence(0, -1);
            int b = c.sentence(0, -1);
            c.x.give(0, 1, 60);
            // the MOVE has the same count as the PUT of hand 1, and is worked ahead of it
            c.x.move(0, a, part, -1);
            int d = c.x.put(1, 1, -1, a, 1);
            c.dueSeen(1, part, a, d, b);
            c.x.give(0, 1, 60);
            c.dueSeen(1, part, a, b, d);
            // a later MOVE leaves it where it is
            c.x.give(1, 0, 60);
            int e = c.x.put(0, 1, -1, b, 1);
            c.x.move(0, b, part, -1);
            c.dueSeen(0, part, b, a, e, d);
        });
        Check.that("book: the latest of several PUTS behind one PIECE is the next to it", c -> {
            int a = c.sentence(0, -1);
            c.x.give(0, 1, 60);
            int mine = c.x.put(0, 1, -1, a, 1);
            int theirs = c.x.put(1, 1, -1, a, 1);
            int second = c.x.put(0, 1, -1, a, 1);
            c.x.give(1, 0, 60);
            c.x.give(0, 1, 60);
            c.dueSeen(0, a, second, theirs, mine);
            c.dueSeen(1, a, second, theirs, mine);
        });
    }

    private static void stamps() {
        Check.that("book: what was made last may be the first by STAMPS", c -> {
            int later = c.x.put(1, 1, -1, -1, 1);
            int sooner = c.x.put(0, 1, -1, -1, 1);
            c.x.give(0, 1, 60);
            c.dueSeen(1, later, sooner);
            int third = c.x.put(2, 1, -1, -1, 1);
            c.x.give(2, 1, 60);
            c.dueSeen(1, third, later, sooner);
            c.x.put(0, 1, -1, -1, 1);
            c.x.give(0, 1, 60);
            c.dueSeen(1, third + 1, third, later, sooner);
        });
        Check.that("book: counts go ahead of HANDS: 5 with count 1 is ahead of 0 with count 2", c -> {
            int a = c.x.put(0, 1, -1, -1, 1);
            int b = c.x.put(0, 1, -1, -1, 1);
            int d = c.x.put(5, 1, -1, -1, 1);
            c.x.give(5, 0, 60);
            c.dueSeen(0, b, d, a);
        });
    }

    private static void moves() {
        Check.that("book: MOVE to where it is, and of the last one behind all", c -> {
            int part = c.part(0);
            int in = c.sentence(0, part);
            int a = c.sentence(0, -1);
            int b = c.sentence(0, -1);
            c.x.move(0, a, -1, part);
            c.dueSeen(0, part, in, a, b);
            c.x.move(0, part, -1, -1);
            c.dueSeen(0, part, in, a, b);
            c.x.move(0, b, -1, in);
            c.dueSeen(0, part, in, a, b);
            c.x.move(0, in, part, b);
            c.dueSeen(0, part, in, a, b);
            c.x.move(0, a, -1, in);
            c.dueSeen(0, part, in, b, a);
        });
        Check.that("book: MOVE LOSES within a PART in it, at depth 1 and 2; not beside one", c -> {
            for (int depth = 1; depth <= 3; depth++) {
                BookHouse x = new BookHouse();
                for (int k = 0; k < 4; k++) x.put(0, 0, -1, -1, 1);
                x.give(0, 1, 60);
                // ahead of it by STAMPS: 1 goes into 0, 2 into 1; 3 stays
                x.move(0, 1, 0, -1);
                x.move(0, 2, 1, -1);
                x.word(1, 1);
                x.note(1, 0, 0);
                x.strike(1, 3);
                x.strike(1, 3);
                int move = x.move(1, 0, depth, -1);
                x.give(0, 1, 60);
                c.due(depth == 3 ? 0 : 2, x.came(1, move));
                c.due(depth == 3 ? 3 : -1, x.piece(1, 0, 3));
                c.due(depth == 3 ? 1 : 0, x.say(1, move));
                c.due(0, x.piece(1, 1, 3));
                c.due(1, x.piece(1, 2, 3));
            }
        });
        Check.that("book: MOVE that LOSES leaves place, and being STRUCK, as they are", c -> {
            int a = c.part(0);
            int b = c.part(0);
            int d = c.part(0);
            c.x.give(0, 1, 60);
            c.x.move(0, b, a, -1);
            c.x.strike(1, a);
            int lost = c.x.move(1, a, b, -1);
            c.x.give(0, 1, 60);
            c.due(2, c.x.came(1, lost));
            c.due(1, c.x.piece(1, a, 1));
            c.due(-1, c.x.piece(1, a, 3));
            c.due(-1, c.x.piece(1, a, 4));
            c.due(a, c.x.piece(1, d, 4));
            c.dueSeen(1, d);
        });
    }

    private static void strikes() {
        Check.that("book: STRIKE twice and RAISE once: not STRUCK; RAISE of one that is not STRUCK", c -> {
            int s = c.sentence(0, -1);
            c.x.keep(0);
            c.x.strike(0, s);
            int strike = c.x.strike(0, s);
            c.x.back(0, strike);
            c.dueSeen(0, s);
            int raise = c.x.settle(0, s, 4, 10);
            c.due(6, c.x.change(raise, 0));
            c.due(0, c.x.came(0, raise));
            c.dueSeen(0, s);
        });
        Check.that("book: by STAMPS, not as they were made: the STRIKE of an earlier STAMP does not strike", c -> {
            int s = c.sentence(0, -1, 1);
            c.x.give(0, 1, 60);
            c.x.note(1, s, 1);
            c.say(1, s, 2);
            c.x.strike(0, s);
            c.x.give(0, 1, 60);
            c.due(0, c.x.piece(1, s, 1));
            c.x.strike(0, s);
            c.x.strike(0, s);
            c.x.give(0, 1, 60);
            c.due(1, c.x.piece(1, s, 1));
        });
        Check.that("book: of equal counts the HAND's number tells: 0 ahead of 1", c -> {
            int s = c.sentence(0, -1);
            c.x.give(0, 1, 60);
            int one = c.x.note(1, s, 1);
            int two = c.x.note(0, s, 2);
            c.due(c.x.change(one, 2), c.x.change(two, 2));
            c.x.give(0, 1, 60);
            c.due(1, c.x.piece(1, s, 7));
        });
        Check.that("book: FIRM 0: MOVE and WORDS raise; NOTE and TIE do not; FIRM 1: none does", c -> {
            for (int firm = 0; firm < 2; firm++) {
                for (int kind = 0; kind < 4; kind++) {
                    BookHouse x = new BookHouse();
                    x.put(0, 1, -1, -1, 1);
                    x.strike(0, 0);
                    if (kind == 0) x.move(0, 0, -1, -1);
                    if (kind == 1) x.words(0, 0);
                    if (kind == 2) x.note(0, 0, 1);
                    if (kind == 3) x.tie(0, 0, 0);
                    c.due(0, x.firm(firm));
                    c.due(firm == 0 && kind < 2 ? 0 : 1, x.piece(0, 0, 1));
                    c.due(firm == 0 && kind < 2 ? 0 : 1, x.say(0, 1));
                }
            }
        });
        Check.that("book: FIRM is a matter of the house, now: of STATES and EDITIONS of ahead too", c -> {
            int s = c.sentence(0, -1, 1);
            c.x.strike(0, s);
            c.say(0, s, 2);
            c.x.keep(0);
            c.x.edition(0, 0, 10, 10);
            c.x.rule(0, s);
            c.due(1, c.x.open(10));
            c.x.firm(1);
            c.due(0, c.x.seen(10, -1));
            c.due(0, c.x.open(10));
            c.due(0, c.x.pages(0, 0));
            c.due(UNKNOWN, c.x.onPage(0, s, 0));
            c.x.firm(0);
            c.due(1, c.x.seen(10, -1));
            c.due(1, c.x.onPage(0, s, 0));
        });
        Check.that("book: not SEEN with a STRUCK PART around, next to it or farther; SEEN again as it is raised", c -> {
            int a = c.part(0);
            int b = c.part(0, a);
            int s = c.sentence(0, b);
            int behind = c.sentence(0, a);
            int far = c.x.strike(0, a);
            c.dueSeen(0);
            c.due(0, c.x.piece(0, s, 2));
            int near = c.x.strike(0, b);
            c.x.back(0, far);
            c.dueSeen(0, a, behind);
            c.due(0, c.x.piece(0, s, 2));
            c.due(0, c.x.piece(0, s, 1));
            c.x.back(0, near);
            c.dueSeen(0, a, b, s, behind);
        });
        Check.that("book: a STRUCK PIECE is THERE: it is put under, behind, moved, told, noted, tied", c -> {
            int a = c.part(0);
            int s = c.sentence(0, a, 1);
            c.x.strike(0, a);
            c.x.strike(0, s);
            int t = c.x.put(0, 1, a, s, 1);
            c.due(s, c.x.piece(0, t, 4));
            c.x.note(0, s, 3);
            c.x.tie(0, s, a);
            c.due(3, c.x.piece(0, s, 7));
            c.due(a, c.x.piece(0, s, 8));
            c.due(1, c.x.piece(0, s, 1));
            c.x.firm(1);
            c.say(0, s, 2);
            c.dueWords(0, s, 2);
            c.due(1, c.x.piece(0, s, 1));
        });
    }

    private static void leaves() {
        Check.that("book: each CHANGE leaves of its PIECE what it does not tell, and of others all", c -> {
            // what piece() tells of 1 in the order of its numbers, then of KINDS 1 to 6 what becomes other
            int[] before = {1, 0, 1, 0, -1, 0, 3, 2, 5, 1};
            int[][] others = {{}, {1, 1, 2, 0}, {3, -1, 4, 0, 9, 0}, {6, 2}, {7, 3}, {8, 0}, {}};
            for (int kind = 1; kind <= 6; kind++) {
                int[] due = before.clone();
                for (int k = 0; k < others[kind].length; k += 2) due[others[kind][k]] = others[kind][k + 1];
                int made = kind;
                Replay house = HOUSE.then(x -> make(x, made));
                for (int what = 0; what < 10; what++) {
                    int asked = what;
                    house.due(c, due[what], x -> x.piece(0, 1, asked));
                    if (what != 4 && what != 5) {
                        house.due(c, new int[] {1, 0, 1, 4, 0, 0, 2, 0, -1, 2}[what], x -> x.piece(0, 5, asked));
                    }
                }
                for (int i = 0; i < 3 && kind != 3; i++) {
                    int word = i;
                    house.due(c, 5 + i, x -> x.at(0, 1, word, 0));
                    house.due(c, 6, x -> x.at(0, 1, word, 1));
                }
            }
        });
        Check.that("book: a PART that moves takes with it what is in it, in its order", c -> {
            int a = c.part(0);
            int b = c.part(0);
            int s = c.sentence(0, a, 1);
            int t = c.sentence(0, a, 2);
            c.x.move(0, a, b, -1);
            c.dueSeen(0, b, a, s, t);
            c.due(2, c.x.piece(0, s, 9));
            c.due(s, c.x.piece(0, t, 4));
            c.dueWords(0, t, 2);
        });
        Check.that("book: from nothing on: what was asked of another SOURCE leaves nothing", c -> {
            int s = c.sentence(0, -1);
            c.x.keep(0);
            c.say(0, s, 1, 2);
            c.x.note(0, s, 3);
            c.x.tie(0, s, s);
            c.x.strike(0, s);
            int[] due = {1, 0, 1, -1, -1, 0, 0, 0, -1, 0};
            int[] other = {1, 1, 0, -1, -1, 0, 2, 3, s, 0};
            for (int what = 0; what < 10; what++) {
                c.due(other[what], c.x.piece(0, s, what));
                c.due(due[what], c.x.piece(10, s, what));
                c.due(what == 0 ? 0 : LOST + STATE, c.x.piece(1, s, what));
            }
        });
    }

    /** A CHANGE of this KIND upon 1, by hand 0. */
    private static void make(BookHouse x, int kind) {
        if (kind == 1) x.strike(0, 1);
        if (kind == 2) x.move(0, 1, -1, 0);
        if (kind == 3) x.words(0, 1);
        if (kind == 4) x.note(0, 1, 3);
        if (kind == 5) x.tie(0, 1, 0);
        if (kind == 6) x.settle(0, 1, 4, 10);
    }

    private static void who() {
        Check.that("book: WHO of a SENTENCE without WORDS as it gets some, and of one that lost all", c -> {
            int s = c.sentence(0, -1);
            c.dueWho(0, s);
            int one = c.say(0, s, 4, 5);
            c.dueWho(0, s, one, one);
            c.say(0, s);
            c.dueWho(0, s);
            int two = c.say(0, s, 4, 5);
            c.dueWho(0, s, two, two);
        });
        Check.that("book: WHO of rows of 8, the same, one other at the first, in the middle, at the last", c -> {
            int s = c.sentence(0, -1);
            int a = c.say(0, s, 1, 2, 3, 4, 5, 6, 7, 8);
            c.say(0, s, 1, 2, 3, 4, 5, 6, 7, 8);
            c.dueWho(0, s, a, a, a, a, a, a, a, a);
            int b = c.say(0, s, 9, 2, 3, 4, 5, 6, 7, 8);
            c.dueWho(0, s, b, a, a, a, a, a, a, a);
            int d = c.say(0, s, 9, 2, 3, 99, 5, 6, 7, 8);
            c.dueWho(0, s, b, a, a, d, a, a, a, a);
            int e = c.say(0, s, 9, 2, 3, 99, 5, 6, 7, 1);
            c.dueWho(0, s, b, a, a, d, a, a, a, e);
            c.dueWords(0, s, 9, 2, 3, 99, 5, 6, 7, 1);
        });
        Check.that("book: WHO of the last ones: not those that count already from the first on", c -> {
            int s = c.sentence(0, -1);
            int a = c.say(0, s, 5);
            int b = c.say(0, s, 5, 5);
            c.dueWho(0, s, a, b);
            int d = c.say(0, s, 5, 6, 5);
            c.dueWho(0, s, a, d, b);
            c.say(0, s, 5);
            c.dueWho(0, s, a);
            int e = c.say(0, s, 7, 5);
            c.dueWho(0, s, e, a);
            c.say(0, s, 7);
            c.dueWho(0, s, e);
        });
        Check.that("book: WHO of WORDS of two HANDS at once, as STAMPS go", c -> {
            int s = c.sentence(0, -1);
            int a = c.say(0, s, 1, 2, 3);
            c.x.give(0, 1, 60);
            int theirs = c.say(1, s, 1, 2, 9);
            int mine = c.say(0, s, 8, 2, 3);
            c.x.give(1, 0, 60);
            // mine is worked first; theirs has not one of its first and last ones
            c.dueWords(0, s, 1, 2, 9);
            c.dueWho(0, s, theirs, theirs, theirs);
            c.x.give(0, 2, 3);
            c.dueWords(2, s, 8, 2, 3);
            c.dueWho(2, s, mine, a, a);
            int next = c.say(0, s, 1, 2, 7);
            int behind = c.say(1, s, 6, 2, 7);
            c.x.note(1, s, 1);
            int last = c.say(1, s, 6, 5, 7);
            c.x.give(0, 1, 60);
            c.dueWords(1, s, 6, 5, 7);
            c.dueWho(1, s, behind, last, next);
        });
        Check.that("book: WHO of one word; a STRIKE and a RAISE between leave it", c -> {
            int s = c.sentence(0, -1);
            int a = c.say(0, s, 7);
            c.x.back(0, c.x.strike(0, s));
            c.dueWho(0, s, a);
            int b = c.say(0, s, 8);
            c.dueWho(0, s, b);
        });
    }

    private static void sources() {
        Check.that("book: SOURCES 0 to 5 and the STATES that were kept, of every call that takes one", c -> {
            Edge[] edges = {
                new Edge(c, HOUSE, (x, n) -> x.seen(n, -1)).asked(0, 5).asked(5, 0).asked(10, 5),
                new Edge(c, HOUSE, (x, n) -> x.seek(n, 0, -1)).asked(0, 2).asked(5, 0).asked(10, 2),
                new Edge(c, HOUSE, (x, n) -> x.clash(n, 1, -1)).asked(0, 0).asked(5, 0).asked(10, 0),
                new Edge(c, HOUSE, (x, n) -> x.clash(1, n, -1)).asked(0, 0).asked(5, 0).asked(10, 0),
                new Edge(c, HOUSE, (x, n) -> x.open(n)).asked(0, 1).asked(5, 2).asked(10, 1),
            };
            for (Edge e : edges) e.refused(UNKNOWN, -1, 6, 9, 11, 17, 18, LEAST, MOST);
            Edge[] told = {
                new Edge(c, HOUSE, (x, n) -> x.piece(n, 0, 5)).asked(0, 3).asked(5, LOST + STATE).asked(10, 3),
                new Edge(c, HOUSE, (x, n) -> x.at(n, 1, 1, 0)).asked(0, 6).asked(1, 8).asked(10, 6),
                new Edge(c, HOUSE, (x, n) -> x.digest(n)).asked(5, 251),
            };
            for (Edge e : told) e.refused(LOST + UNKNOWN, -1, 6, 9, 11, 17, 18, LEAST, MOST);
        });
        Check.that("book: the 8th STATE is SOURCE 17, and there is no 18", c -> {
            new Edge(c, STATES_FULL, (x, n) -> x.seen(n, -1)).asked(17, 7).asked(11, 7).refused(UNKNOWN, 18);
            new Edge(c, STATES_FULL, (x, n) -> x.seek(n, 0, -1)).asked(17, 1).refused(UNKNOWN, 18);
            new Edge(c, STATES_FULL, (x, n) -> x.clash(n, 0, -1)).asked(17, 0).refused(UNKNOWN, 18);
            new Edge(c, STATES_FULL, (x, n) -> x.open(n)).asked(17, 3).refused(UNKNOWN, 18);
            new Edge(c, STATES_FULL, (x, n) -> x.piece(n, 14, 5)).asked(17, 1).refused(LOST + UNKNOWN, 18);
            new Edge(c, STATES_FULL, (x, n) -> x.at(n, 1, 1, 0)).asked(17, 8).refused(LOST + UNKNOWN, 18);
            new Edge(c, STATES_FULL, (x, n) -> x.digest(n)).refused(LOST + UNKNOWN, 18);
        });
        Check.that("book: a STATE of a HAND that has nothing is empty, and stays so", c -> {
            c.due(10, c.x.keep(3));
            c.sentence(3, -1, 1);
            c.dueSeen(10);
            c.due(251, c.x.digest(10));
            c.due(NONE, c.x.came(10, 0));
            c.due(LOST + STATE, c.x.piece(10, 0, 1));
        });
    }

    private static void seen() {
        Check.that("16 seen: i from -1 to the last one", c -> {
            new Edge(c, HOUSE, (x, n) -> x.seen(0, n)).asked(-1, 5).asked(0, 0).asked(1, 1).asked(2, 2).asked(3, 4)
                .asked(4, 5).asked(5, NONE).asked(-2, NONE).asked(LEAST, NONE).asked(MOST, NONE);
            new Edge(c, HOUSE, (x, n) -> x.seen(3, n)).asked(-1, 0).asked(0, NONE).asked(-2, NONE);
        });
        Check.that("16 seen: 60 PIECES, the most that there can be", c -> {
            for (int k = 0; k < 60; k++) c.x.put(0, 2, -1, k - 1, 1);
            c.due(60, c.x.seen(0, -1));
            c.due(0, c.x.seen(0, 0));
            c.due(59, c.x.seen(0, 59));
            c.due(NONE, c.x.seen(0, 60));
        });
    }

    private static void piece() {
        Check.that("17 piece: PIECES that were put, by any HAND", c ->
            new Edge(c, HOUSE, (x, n) -> x.piece(0, n, 0))
                .asked(0, 1).asked(11, 1).asked(14, 0).asked(15, 0)
                .refused(LOST + UNKNOWN, -1, -2, 6, 9, 17, NEXT, 59, 60, 64, LEAST, MOST));
        Check.that("17 piece: what 0 to 9", c -> {
            new Edge(c, HOUSE, (x, n) -> x.piece(0, 5, n)).asked(0, 1).asked(9, 2)
                .refused(LOST + OUTSIDE, -1, 10, LEAST, MOST);
            new Edge(c, HOUSE, (x, n) -> x.piece(0, 14, n)).asked(0, 0)
                .refused(LOST + STATE, 1, 2, 3, 4, 5, 6, 7, 8, 9).refused(LOST + OUTSIDE, -1, 10);
        });
        Check.that("17 piece: UNKNOWN, then OUTSIDE, then STATE", c -> {
            HOUSE.refused(c, LOST + UNKNOWN, x -> x.piece(6, 14, 10));
            HOUSE.refused(c, LOST + UNKNOWN, x -> x.piece(0, 6, 10));
            HOUSE.refused(c, LOST + OUTSIDE, x -> x.piece(0, 14, 10));
            HOUSE.refused(c, LOST + OUTSIDE, x -> x.piece(5, 0, -1));
        });
        Check.that("17 piece: what a PART, a PICTURE, a SENTENCE tell at first", c -> {
            int[] due = {1, 0, 1, -1, -1, 0, 0, 0, -1, 0};
            for (int sort = 0; sort < 3; sort++) {
                BookHouse x = new BookHouse();
                x.put(0, sort, -1, -1, 9);
                for (int what = 0; what < 10; what++) c.due(due[what], x.piece(0, 0, what));
            }
        });
        Check.that("17 piece: STRUCK ones count as the one ahead, and among those right in a PART", c -> {
            int a = c.part(0);
            int s = c.sentence(0, a);
            int t = c.sentence(0, a);
            int u = c.sentence(0, c.part(0, a));
            c.x.strike(0, s);
            c.due(s, c.x.piece(0, t, 4));
            c.due(3, c.x.piece(0, a, 5));
            c.due(2, c.x.piece(0, u, 9));
            c.x.move(0, t, -1, -1);
            c.due(2, c.x.piece(0, a, 5));
            c.due(t, c.x.piece(0, a, 4));
        });
        Check.that("17 piece: WORDS 0 to 8, NOTE 0 to 3, TIE", c -> {
            int s = c.sentence(0, -1, 1, 2, 3, 4, 5, 6, 7, 8);
            c.x.note(0, s, 3);
            c.x.tie(0, s, s);
            c.due(8, c.x.piece(0, s, 6));
            c.due(3, c.x.piece(0, s, 7));
            c.due(s, c.x.piece(0, s, 8));
            c.say(0, s);
            c.x.note(0, s, 0);
            c.x.tie(0, s, -1);
            c.due(0, c.x.piece(0, s, 6));
            c.due(0, c.x.piece(0, s, 7));
            c.due(-1, c.x.piece(0, s, 8));
        });
    }

    private static void at() {
        Check.that("18 at: PIECES that are THERE and have WORDS", c ->
            new Edge(c, HOUSE, (x, n) -> x.at(0, n, 0, 1)).asked(1, 6).asked(5, 7)
                .refused(LOST + UNKNOWN, -1, 0, 2, 3, 6, 8, 11, 14, 15, 17, NEXT, 60, 64, LEAST, MOST));
        Check.that("18 at: i from 0 to the last WORD", c -> {
            new Edge(c, HOUSE, (x, n) -> x.at(0, 1, n, 0)).asked(0, 5).asked(2, 7)
                .refused(LOST + UNKNOWN, -1, 3, LEAST, MOST);
            Replay eight = Houses.PAD_FULL.then(x -> x.words(0, 2));
            new Edge(c, eight, (x, n) -> x.at(0, 2, n, 0)).asked(0, 5).asked(7, 1).refused(LOST + UNKNOWN, 8);
            new Edge(c, eight, (x, n) -> x.at(0, 2, n, 1)).asked(0, NEXT).asked(7, NEXT).refused(LOST + UNKNOWN, 8);
        });
        Check.that("18 at: what 0 and 1", c -> new Edge(c, HOUSE, (x, n) -> x.at(0, 1, 1, n)).asked(0, 6).asked(1, 6)
            .refused(LOST + OUTSIDE, -1, 2, LEAST, MOST));
        Check.that("18 at: UNKNOWN, then OUTSIDE", c -> {
            HOUSE.refused(c, LOST + UNKNOWN, x -> x.at(6, 1, 0, 2));
            HOUSE.refused(c, LOST + UNKNOWN, x -> x.at(0, 15, 0, 2));
            HOUSE.refused(c, LOST + UNKNOWN, x -> x.at(0, 1, 3, 2));
        });
        Check.that("18 at: of a STRUCK SENTENCE too", c -> {
            int s = c.sentence(0, -1, 7, 8);
            c.x.strike(0, s);
            c.dueWords(0, s, 7, 8);
            c.dueWho(0, s, 1, 1);
        });
    }

    private static void seek() {
        Check.that("19 seek: HANDS 0 to 5; STATE if the PAD is empty", c ->
            new Edge(c, HOUSE, (x, n) -> x.seek(0, n, -1)).asked(0, 2).asked(5, 0)
                .refused(STATE, 1, 2, 3, 4).refused(UNKNOWN, -1, 6, 10, LEAST, MOST));
        Check.that("19 seek: i from -1 to the last place", c -> new Edge(c, HOUSE, (x, n) -> x.seek(0, 0, n))
            .asked(-1, 2).asked(0, 10).asked(1, 50).asked(2, NONE).asked(-2, NONE).asked(LEAST, NONE)
            .asked(MOST, NONE));
        Check.that("19 seek: UNKNOWN, then STATE", c -> {
            HOUSE.refused(c, UNKNOWN, x -> x.seek(6, 1, -1));
            HOUSE.refused(c, UNKNOWN, x -> x.seek(11, 1, 0));
            HOUSE.refused(c, STATE, x -> x.seek(0, 1, 5));
        });
        Check.that("19 seek: a row as long as the SENTENCE, one shorter, one longer", c -> {
            int s = c.sentence(0, -1, 1, 2, 3);
            c.pad(1, 2, 3);
            c.due(10 * s + 1, c.x.seek(0, 1, 0));
            c.pad(2, 1, 2, 3);
            c.due(10 * s, c.x.seek(0, 2, 0));
            c.pad(3, 1, 2, 3, 4);
            c.due(0, c.x.seek(0, 3, -1));
            c.pad(4, 3);
            c.due(10 * s + 2, c.x.seek(0, 4, 0));
            c.due(1, c.x.seek(0, 4, -1));
        });
        Check.that("19 seek: a full PAD in a full SENTENCE; a place in each of eight WORDS", c -> {
            int s = c.sentence(0, -1, 4, 4, 4, 4, 4, 4, 4, 4);
            c.pad(0, 4);
            c.due(8, c.x.seek(0, 0, -1));
            c.due(10 * s + 7, c.x.seek(0, 0, 7));
            c.due(NONE, c.x.seek(0, 0, 8));
            c.pad(0, 4, 4, 4, 4, 4, 4, 4);
            c.due(1, c.x.seek(0, 0, -1));
            c.due(8, c.x.told(20));
        });
        Check.that("19 seek: not in SENTENCES that are not SEEN, nor from one SENTENCE into the next", c -> {
            int part = c.part(0);
            int s = c.sentence(0, part, 1, 2);
            int t = c.sentence(0, part, 3, 1);
            c.pad(1, 2, 3);
            c.due(0, c.x.seek(0, 1, -1));
            c.pad(2, 1);
            c.due(2, c.x.seek(0, 2, -1));
            c.due(10 * s, c.x.seek(0, 2, 0));
            c.due(10 * t + 1, c.x.seek(0, 2, 1));
            c.x.strike(0, part);
            c.due(0, c.x.seek(0, 2, -1));
        });
        Check.that("19 seek: but for FOLDS, those that hang together by others too", c -> {
            int s = c.sentence(0, -1, 1);
            c.pad(1, 3);
            c.due(0, c.x.seek(0, 1, -1));
            c.x.fold(1, 2);
            c.due(0, c.x.seek(0, 1, -1));
            c.x.fold(3, 2);
            c.due(10 * s, c.x.seek(0, 1, 0));
        });
    }

    private static void digest() {
        Check.that("20 digest: of nothing 251; of PIECES without WORDS; as they are SEEN", c -> {
            c.due(251, c.x.digest(0));
            int a = c.part(0);
            long h = (251 * 31 + a) * 31;
            c.due(h, c.x.digest(0));
            int p = c.picture(0, a, 1);
            c.due((h * 31 + p) * 31 + 1, c.x.digest(0));
            c.x.strike(0, p);
            c.due(h, c.x.digest(0));
            c.x.strike(0, a);
            c.due(251, c.x.digest(0));
        });
        Check.that("20 digest: a long that wraps around: it becomes negative, and goes on", c -> {
            long h = 251;
            boolean below = false;
            for (int k = 0; k < 14; k++) {
                int p = c.x.put(0, 0, k - 1, -1, 1);
                h = 31 * (31 * h + p) + k;
                c.due(h, c.x.digest(0));
                below |= h < 0;
            }
            c.due(below);
        });
    }

    public static void main(String[] args) {
        puts();
        stamps();
        moves();
        strikes();
        leaves();
        who();
        sources();
        seen();
        piece();
        at();
        seek();
        digest();
        Check.end();
    }
}

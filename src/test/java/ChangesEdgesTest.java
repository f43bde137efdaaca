import java.util.List;
import java.util.function.ToLongFunction;

/** Edges of promises 1 to 15: what is still taken, what is refused, in which order, and that it changes nothing. */
public final class ChangesEdgesTest {
    private static final int UNKNOWN = Check.UNKNOWN, OUTSIDE = Check.OUTSIDE, FULL = Check.FULL, NO = Check.NO,
        NONE = Check.NONE, LOST = Check.LOST, STATE = Check.STATE, LEAST = Edge.LEAST, MOST = Edge.MOST;
    private static final Replay HOUSE = Houses.HOUSE, ONE_LEFT = Houses.ONE_LEFT, ALL_MADE = Houses.CHANGES_FULL;
    private static final Replay NEW = new Replay(x -> { });
    // hand 5 has what hand 0 has
    private static final Replay FIVE = HOUSE.then(x -> x.give(0, 5, 60));
    private static final int NEXT = Houses.NEXT;

    private static void newObject() {
        Check.that("1 a new object: what each call that makes something answers first", c -> {
            NEW.due(c, 1, x -> x.word(0, 1));
            NEW.due(c, 0, x -> x.put(5, 2, -1, -1, 9));
            NEW.due(c, 0, x -> x.give(0, 1, 60));
            NEW.due(c, 10, x -> x.keep(0));
            NEW.due(c, 0, x -> x.firm(1));
            NEW.due(c, 1, x -> x.rule(0, -1));
            NEW.due(c, 1, x -> x.yes(0, -1));
            NEW.due(c, 1, x -> x.fold(1, 2));
            NEW.due(c, 1, x -> x.term(1, 1, 2));
            NEW.due(c, 0, x -> x.edition(0, 0, 10, 10));
        });
        Check.that("1 a new object: what each call that needs something is refused", c -> {
            NEW.refused(c, NO, x -> x.strike(0, 0));
            NEW.refused(c, NO, x -> x.move(0, 0, -1, -1));
            NEW.refused(c, NO, x -> x.words(0, 0));
            NEW.refused(c, NO, x -> x.note(0, 0, 1));
            NEW.refused(c, NO, x -> x.tie(0, 0, -1));
            NEW.refused(c, UNKNOWN, x -> x.back(0, 0));
            NEW.refused(c, NO, x -> x.settle(0, 0, 0, 1));
            NEW.refused(c, UNKNOWN, x -> x.rule(0, 0));
            NEW.refused(c, NO, x -> x.yes(0, 0));
            NEW.refused(c, NO, x -> x.lead(1, 0, 0, 0));
        });
        Check.that("1 a new object: what each call that asks is answered", c -> {
            NEW.asked(c, LOST + UNKNOWN, x -> x.change(0, 0));
            NEW.asked(c, UNKNOWN, x -> x.came(0, 0));
            NEW.asked(c, UNKNOWN, x -> x.say(0, 0));
            NEW.asked(c, 0, x -> x.seen(0, -1));
            NEW.asked(c, NONE, x -> x.seen(0, 0));
            NEW.asked(c, LOST + UNKNOWN, x -> x.piece(0, 0, 0));
            NEW.asked(c, LOST + UNKNOWN, x -> x.at(0, 0, 0, 0));
            NEW.asked(c, STATE, x -> x.seek(0, 0, -1));
            NEW.asked(c, 251, x -> x.digest(0));
            NEW.asked(c, 0, x -> x.clash(0, 1, -1));
            NEW.asked(c, 0, x -> x.open(0));
            NEW.asked(c, 0, x -> x.stale(1, 0, -1));
            NEW.asked(c, UNKNOWN, x -> x.offer(1, 0, 0, 0));
            NEW.asked(c, UNKNOWN, x -> x.pair(0, 0, 0));
            NEW.asked(c, 0, x -> x.unlike(1, 0, -1));
            NEW.asked(c, UNKNOWN, x -> x.pages(0, 0));
            NEW.asked(c, UNKNOWN, x -> x.onPage(0, 0, 0));
            NEW.asked(c, UNKNOWN, x -> x.line(0, 0, 0));
            NEW.asked(c, UNKNOWN, x -> x.index(0, 1, -1));
            NEW.asked(c, UNKNOWN, x -> x.reach(0, 0, 0));
        });
        Check.that("1 an object is used for 512 calls: the last one is answered as the first", c -> {
            c.due(0, c.x.put(0, 1, -1, -1, 1));
            for (int k = 2; k < 511; k++) c.due(OUTSIDE, c.x.word(0, 0));
            c.due(1, c.x.word(0, 99));
            c.due(1, c.x.words(0, 0));
        });
    }

    private static void word() {
        Check.that("2 word: HANDS 0 to 5", c -> new Edge(c, HOUSE, (x, n) -> x.word(n, 7))
            .taken(0, 3).taken(1, 1).taken(5, 2).refused(UNKNOWN, -1, 6, LEAST, MOST));
        Check.that("2 word: WORDS are numbers from 1 to 99", c -> new Edge(c, HOUSE, (x, n) -> x.word(0, n))
            .taken(1, 3).taken(99, 3).refused(OUTSIDE, 0, 100, -1, LEAST, MOST));
        Check.that("2 word: a PAD of WORDS, 8 at most, of each HAND", c -> {
            for (int w = 1; w <= 8; w++) c.due(w, c.x.word(3, w));
            c.due(FULL, c.x.word(3, 9));
            c.due(8, c.x.told(23));
            for (int hand = 0; hand < 6; hand++) if (hand != 3) c.due(1, c.x.word(hand, 9));
            int s = c.sentence(3, -1);
            c.x.words(3, s);
            c.dueWords(3, s, 1, 2, 3, 4, 5, 6, 7, 8);
            c.due(1, c.x.word(3, 9));
        });
        Check.that("2 word: UNKNOWN, then OUTSIDE, then FULL; nothing changes", c -> {
            HOUSE.refused(c, UNKNOWN, x -> x.word(6, 0));
            Houses.PAD_FULL.refused(c, UNKNOWN, x -> x.word(-1, 100));
            Houses.PAD_FULL.refused(c, OUTSIDE, x -> x.word(0, 0));
            Houses.PAD_FULL.refused(c, OUTSIDE, x -> x.word(0, 100));
            Houses.PAD_FULL.refused(c, FULL, x -> x.word(0, 1));
            Houses.PAD_FULL.refused(c, FULL, x -> x.word(0, 99));
        });
    }

    /** The call makes the last CHANGE that there is room for; with 60 it is refused. */
    private static void lastChange(Check.Case c, ToLongFunction<BookHouse> call) {
        HOUSE.due(c, NEXT, call);
        ONE_LEFT.due(c, 59, call);
        ALL_MADE.refused(c, FULL, call);
    }

    private static void made() {
        Check.that("made: a HAND has its own CHANGE at once, others have it not; its number is the next one", c -> {
            List<ToLongFunction<BookHouse>> calls = List.of(x -> x.put(0, 0, -1, -1, 1), x -> x.strike(0, 0),
                x -> x.move(0, 2, -1, -1), x -> x.words(0, 2), x -> x.note(0, 2, 1), x -> x.tie(0, 2, 0),
                x -> x.back(0, 16), x -> x.settle(0, 1, 1, 1));
            for (ToLongFunction<BookHouse> call : calls) {
                Replay after = HOUSE.then(call::applyAsLong);
                after.due(c, NEXT + 1, x -> x.told(0));
                after.due(c, 16, x -> x.told(10));
                after.due(c, 16, x -> x.told(11));
                after.due(c, 0, x -> x.came(0, NEXT));
                after.due(c, NONE, x -> x.came(1, NEXT));
                after.due(c, NONE, x -> x.came(10, NEXT));
                after.due(c, 0, x -> x.change(NEXT, 1));
                // it is the 16th of hand 0, which has no others'
                after.due(c, 16, x -> x.change(NEXT, 2));
                after.due(c, NEXT + 1, x -> x.put(0, 0, -1, -1, 1));
            }
        });
    }

    private static void put() {
        Check.that("3 put: HANDS 0 to 5", c -> new Edge(c, HOUSE, (x, n) -> x.put(n, 0, -1, -1, 1))
            .taken(0, NEXT).taken(5, NEXT).refused(UNKNOWN, -1, 6, LEAST, MOST));
        Check.that("3 put: SORT 0 to 2", c -> new Edge(c, HOUSE, (x, n) -> x.put(0, n, -1, -1, 1))
            .taken(0, NEXT).taken(1, NEXT).taken(2, NEXT).refused(OUTSIDE, -1, 3, LEAST, MOST));
        Check.that("3 put: a PICTURE is 1 to 9 lines high", c -> new Edge(c, HOUSE, (x, n) -> x.put(0, 2, -1, -1, n))
            .taken(1, NEXT).taken(9, NEXT).refused(OUTSIDE, 0, 10, -1, LEAST, MOST));
        Check.that("3 put: of others it does not matter how high", c -> {
            for (int sort = 0; sort < 2; sort++) {
                for (int high : new int[] {0, 10, -1, LEAST, MOST}) {
                    int p = c.x.put(0, sort, -1, -1, high);
                    c.due(0, c.x.change(p, 7));
                    c.due(sort, c.x.change(p, 6));
                }
            }
        });
        Check.that("3 put: under a PART that is THERE, a STRUCK one too, or the BOOK", c ->
            new Edge(c, HOUSE, (x, n) -> x.put(0, 1, n, -1, 1))
                .taken(-1, NEXT).taken(0, NEXT).taken(4, NEXT).taken(11, NEXT)
                .refused(NO, -2, 1, 3, 6, 14, 17, NEXT, 60, 64, LEAST, MOST));
        Check.that("3 put: behind a PIECE that is THERE, a STRUCK one too, or first", c ->
            new Edge(c, HOUSE, (x, n) -> x.put(0, 1, -1, n, 1))
                .taken(-1, NEXT).taken(0, NEXT).taken(3, NEXT).taken(5, NEXT).taken(11, NEXT)
                .refused(NO, -2, 6, 14, 17, NEXT, 60, 64, LEAST, MOST));
        Check.that("3 put: the 60th CHANGE is made, no 61st", c -> lastChange(c, x -> x.put(0, 2, 0, 2, 9)));
        Check.that("3 put: UNKNOWN, then OUTSIDE, then FULL, then NO; nothing changes", c -> {
            ALL_MADE.refused(c, UNKNOWN, x -> x.put(6, 3, -2, -2, 1));
            HOUSE.refused(c, UNKNOWN, x -> x.put(-1, 2, -1, -1, 10));
            ALL_MADE.refused(c, OUTSIDE, x -> x.put(0, 3, -2, -1, 1));
            ALL_MADE.refused(c, OUTSIDE, x -> x.put(0, 2, 0, 2, 0));
            HOUSE.refused(c, OUTSIDE, x -> x.put(0, 2, 0, -2, 10));
            ALL_MADE.refused(c, FULL, x -> x.put(0, 1, 1, -1, 1));
            ALL_MADE.refused(c, FULL, x -> x.put(0, 1, -1, 14, 1));
        });
    }

    private static void strike() {
        Check.that("4 strike: HANDS 0 to 5", c -> new Edge(c, FIVE, (x, n) -> x.strike(n, 0))
            .taken(0, NEXT).taken(5, NEXT).refused(UNKNOWN, -1, 6, LEAST, MOST));
        Check.that("4 strike: of PIECES that are THERE, STRUCK ones too", c ->
            new Edge(c, HOUSE, (x, n) -> x.strike(0, n))
                .taken(0, NEXT).taken(1, NEXT).taken(3, NEXT).taken(11, NEXT)
                .refused(NO, -1, 6, 14, 17, NEXT, 60, 64, LEAST, MOST));
        Check.that("4 strike: the 60th CHANGE is made, no 61st", c -> lastChange(c, x -> x.strike(0, 1)));
        Check.that("4 strike: UNKNOWN, then FULL, then NO; nothing changes", c -> {
            HOUSE.refused(c, UNKNOWN, x -> x.strike(6, 14));
            ALL_MADE.refused(c, UNKNOWN, x -> x.strike(6, 0));
            ALL_MADE.refused(c, FULL, x -> x.strike(0, 14));
        });
    }

    private static void move() {
        Check.that("5 move: HANDS 0 to 5", c -> new Edge(c, FIVE, (x, n) -> x.move(n, 2, -1, -1))
            .taken(0, NEXT).taken(5, NEXT).refused(UNKNOWN, -1, 6, LEAST, MOST));
        Check.that("5 move: of PIECES that are THERE, STRUCK ones too", c ->
            new Edge(c, HOUSE, (x, n) -> x.move(0, n, -1, -1))
                .taken(0, NEXT).taken(5, NEXT).taken(11, NEXT)
                .refused(NO, -1, 6, 14, 17, NEXT, 60, 64, LEAST, MOST));
        Check.that("5 move: under a PART that is THERE, a STRUCK one too, or the BOOK", c ->
            new Edge(c, HOUSE, (x, n) -> x.move(0, 1, n, -1))
                .taken(-1, NEXT).taken(0, NEXT).taken(4, NEXT).taken(11, NEXT)
                .refused(NO, -2, 1, 3, 5, 6, 14, 17, NEXT, 60, 64, LEAST, MOST));
        Check.that("5 move: behind a PIECE that is THERE, a STRUCK one too, or first", c ->
            new Edge(c, HOUSE, (x, n) -> x.move(0, 1, -1, n))
                .taken(-1, NEXT).taken(0, NEXT).taken(3, NEXT).taken(11, NEXT)
                .refused(NO, -2, 6, 14, 17, NEXT, 60, 64, LEAST, MOST));
        Check.that("5 move: not under itself, nor under what is in it", c ->
            new Edge(c, HOUSE, (x, n) -> x.move(0, 0, n, -1)).taken(11, NEXT).taken(-1, NEXT).refused(NO, 0, 4));
        Check.that("5 move: not behind itself; behind what is in it then goes behind all", c -> {
            new Edge(c, HOUSE, (x, n) -> x.move(0, 0, -1, n)).refused(NO, 0).taken(1, NEXT).taken(5, NEXT);
            HOUSE.due(c, 11, x -> {
                x.move(0, 0, -1, 5);
                return x.piece(0, 0, 4);
            });
        });
        Check.that("5 move: the 60th CHANGE is made, no 61st", c -> lastChange(c, x -> x.move(0, 4, -1, 0)));
        Check.that("5 move: UNKNOWN, then FULL, then NO; nothing changes", c -> {
            HOUSE.refused(c, UNKNOWN, x -> x.move(6, 0, 0, 0));
            ALL_MADE.refused(c, UNKNOWN, x -> x.move(-1, 1, -1, -1));
            ALL_MADE.refused(c, FULL, x -> x.move(0, 0, 4, -1));
            ALL_MADE.refused(c, FULL, x -> x.move(0, 14, -1, -1));
        });
    }

    private static void words() {
        Check.that("6 words: HANDS 0 to 5", c -> new Edge(c, FIVE, (x, n) -> x.words(n, 2))
            .taken(0, NEXT).taken(5, NEXT).refused(UNKNOWN, -1, 6, LEAST, MOST));
        Check.that("6 words: of SENTENCES that are THERE, STRUCK ones too", c ->
            new Edge(c, HOUSE, (x, n) -> x.words(0, n))
                .taken(1, NEXT).taken(5, NEXT).taken(8, NEXT)
                .refused(NO, 0, 3, 11, -1, 6, 15, 17, NEXT, 60, 64, LEAST, MOST));
        Check.that("6 words: a PAD of none and a PAD of 8 are taken, and empty then", c -> {
            HOUSE.due(c, 0, x -> {
                Houses.words(x, 1, 1);
                return x.piece(1, 1, 6) + x.told(21);
            });
            Houses.PAD_FULL.due(c, 8, x -> {
                x.words(0, 1);
                return x.piece(0, 1, 6) + x.told(20);
            });
            Houses.PAD_FULL.due(c, 1, x -> {
                x.words(0, 1);
                return x.word(0, 4);
            });
        });
        Check.that("6 words: the 60th CHANGE is made, no 61st, and the PAD stays", c -> lastChange(c, x -> x.words(0, 1)));
        Check.that("6 words: UNKNOWN, then FULL, then NO; nothing changes", c -> {
            HOUSE.refused(c, UNKNOWN, x -> x.words(6, 0));
            ALL_MADE.refused(c, UNKNOWN, x -> x.words(-1, 1));
            ALL_MADE.refused(c, FULL, x -> x.words(0, 0));
            ALL_MADE.refused(c, FULL, x -> x.words(5, 1));
        });
    }

    private static void note() {
        Check.that("7 note: HANDS 0 to 5", c -> new Edge(c, FIVE, (x, n) -> x.note(n, 2, 1))
            .taken(0, NEXT).taken(5, NEXT).refused(UNKNOWN, -1, 6, LEAST, MOST));
        Check.that("7 note: 0 to 3 lines", c -> new Edge(c, HOUSE, (x, n) -> x.note(0, 1, n))
            .taken(0, NEXT).taken(3, NEXT).refused(OUTSIDE, -1, 4, LEAST, MOST));
        Check.that("7 note: of SENTENCES that are THERE, STRUCK ones too", c ->
            new Edge(c, HOUSE, (x, n) -> x.note(0, n, 3))
                .taken(1, NEXT).taken(2, NEXT).taken(8, NEXT)
                .refused(NO, 0, 3, 11, -1, 6, 15, 17, NEXT, 60, 64, LEAST, MOST));
        Check.that("7 note: the 60th CHANGE is made, no 61st", c -> lastChange(c, x -> x.note(0, 2, 3)));
        Check.that("7 note: UNKNOWN, then OUTSIDE, then FULL, then NO; nothing changes", c -> {
            ALL_MADE.refused(c, UNKNOWN, x -> x.note(6, 0, 4));
            ALL_MADE.refused(c, OUTSIDE, x -> x.note(0, 0, 4));
            HOUSE.refused(c, OUTSIDE, x -> x.note(0, 14, -1));
            ALL_MADE.refused(c, FULL, x -> x.note(0, 0, 3));
        });
    }

    private static void tie() {
        Check.that("8 tie: HANDS 0 to 5", c -> new Edge(c, FIVE, (x, n) -> x.tie(n, 2, 3))
            .taken(0, NEXT).taken(5, NEXT).refused(UNKNOWN, -1, 6, LEAST, MOST));
        Check.that("8 tie: of SENTENCES that are THERE, STRUCK ones too", c ->
            new Edge(c, HOUSE, (x, n) -> x.tie(0, n, 0))
                .taken(1, NEXT).taken(2, NEXT).taken(8, NEXT)
                .refused(NO, 0, 3, 11, -1, 6, 15, 17, NEXT, 60, 64, LEAST, MOST));
        Check.that("8 tie: to a PIECE that is THERE, a STRUCK one too, itself too, or none", c ->
            new Edge(c, HOUSE, (x, n) -> x.tie(0, 1, n))
                .taken(-1, NEXT).taken(0, NEXT).taken(1, NEXT).taken(3, NEXT).taken(11, NEXT)
                .refused(NO, -2, 6, 14, 15, 17, NEXT, 60, 64, LEAST, MOST));
        Check.that("8 tie: the 60th CHANGE is made, no 61st", c -> lastChange(c, x -> x.tie(0, 2, -1)));
        Check.that("8 tie: UNKNOWN, then FULL, then NO; nothing changes", c -> {
            HOUSE.refused(c, UNKNOWN, x -> x.tie(6, 0, 14));
            ALL_MADE.refused(c, UNKNOWN, x -> x.tie(-1, 1, -1));
            ALL_MADE.refused(c, FULL, x -> x.tie(0, 0, 14));
        });
    }

    private static void back() {
        Check.that("9 back: HANDS 0 to 5", c -> new Edge(c, FIVE, (x, n) -> x.back(n, 16))
            .taken(0, NEXT).taken(5, NEXT).refused(UNKNOWN, -1, 6, LEAST, MOST));
        Check.that("9 back: a CHANGE that the HAND has", c -> new Edge(c, HOUSE, (x, n) -> x.back(0, n))
            .taken(0, NEXT).taken(12, NEXT).taken(16, NEXT).taken(17, NEXT)
            .refused(UNKNOWN, -1, 13, 14, 15, NEXT, 59, 60, 64, 80, LEAST, MOST));
        Check.that("9 back: one that another HAND made, too", c -> {
            new Edge(c, HOUSE, (x, n) -> x.back(1, n)).taken(13, NEXT).taken(0, NEXT).taken(10, NEXT);
            HOUSE.due(c, 1, x -> x.change(x.back(1, 10), 1));
        });
        Check.that("9 back: NO of one that has no SAY: a STRUCK PUT, WORDS that are not the latest, a RAISE", c -> {
            HOUSE.refused(c, NO, x -> x.back(0, 3));
            HOUSE.refused(c, NO, x -> x.back(1, 6));
            Replay raised = HOUSE.then(x -> x.back(0, 9));
            raised.refused(c, NO, x -> x.back(0, NEXT));
            raised.refused(c, NO, x -> x.back(0, 9));
            raised.due(c, NEXT + 1, x -> x.back(0, 3));
        });
        Check.that("9 back: the 60th CHANGE is made, no 61st", c -> lastChange(c, x -> x.back(0, 16)));
        Check.that("9 back: UNKNOWN, then FULL, then NO; nothing changes", c -> {
            ALL_MADE.refused(c, UNKNOWN, x -> x.back(6, 3));
            ALL_MADE.refused(c, UNKNOWN, x -> x.back(0, 14));
            ALL_MADE.refused(c, FULL, x -> x.back(0, 3));
        });
    }

    private static void give() {
        Check.that("10 give: HANDS 0 to 5, both", c -> {
            new Edge(c, FIVE, (x, n) -> x.give(n, 2, 60)).taken(0, 15).taken(5, 15).taken(2, 0)
                .refused(UNKNOWN, -1, 6, 10, LEAST, MOST);
            new Edge(c, HOUSE, (x, n) -> x.give(0, n, 60)).taken(0, 0).taken(5, 15)
                .refused(UNKNOWN, -1, 6, 10, LEAST, MOST);
        });
        Check.that("10 give: n 1 to 60", c -> new Edge(c, HOUSE, (x, n) -> x.give(0, 5, n))
            .taken(1, 1).taken(14, 14).taken(15, 15).taken(16, 15).taken(60, 15)
            .refused(OUTSIDE, 0, 61, -1, LEAST, MOST));
        Check.that("10 give: n 60 is all, of 60 CHANGES", c -> {
            Replay many = new Replay(x -> {
                for (int k = 0; k < 60; k++) x.put(0, 1, -1, -1, 1);
            });
            new Edge(c, many, (x, n) -> x.give(0, 1, n)).taken(60, 60).taken(59, 59);
            many.due(c, 1, x -> {
                x.give(0, 1, 59);
                return x.give(0, 1, 60);
            });
            many.due(c, 0, x -> x.give(1, 0, 60));
        });
        Check.that("10 give: the giver keeps what it has; of those alone that are missing", c -> {
            HOUSE.due(c, 15, x -> {
                x.give(0, 5, 60);
                return x.told(10);
            });
            HOUSE.due(c, 2, x -> x.give(0, 1, 60));
            HOUSE.due(c, 3, x -> x.give(1, 0, 60));
            HOUSE.due(c, 18, x -> {
                x.give(1, 0, 60);
                return x.told(10);
            });
        });
        Check.that("10 give: UNKNOWN, then OUTSIDE; nothing changes", c -> {
            HOUSE.refused(c, UNKNOWN, x -> x.give(6, 1, 0));
            HOUSE.refused(c, UNKNOWN, x -> x.give(0, -1, 61));
            HOUSE.refused(c, OUTSIDE, x -> x.give(0, 0, 61));
        });
        Check.that("10 give: to itself, and from one who has nothing, changes nothing", c -> {
            HOUSE.refused(c, 0, x -> x.give(0, 0, 60));
            HOUSE.refused(c, 0, x -> x.give(3, 0, 60));
        });
    }

    private static void keep() {
        Check.that("11 keep: HANDS 0 to 5, also one that has nothing", c -> new Edge(c, HOUSE, (x, n) -> x.keep(n))
            .taken(0, 11).taken(5, 11).refused(UNKNOWN, -1, 6, 10, LEAST, MOST));
        Check.that("11 keep: 8 STATES, 10 to 17; no 9th", c -> {
            for (int k = 0; k < 8; k++) c.due(10 + k, c.x.keep(k % 6));
            c.due(FULL, c.x.keep(0));
            c.due(8, c.x.told(1));
            c.due(0, c.x.seen(17, -1));
            c.due(UNKNOWN, c.x.seen(18, -1));
        });
        Check.that("11 keep: UNKNOWN, then FULL; nothing changes", c -> {
            Houses.STATES_FULL.refused(c, UNKNOWN, x -> x.keep(6));
            Houses.STATES_FULL.refused(c, UNKNOWN, x -> x.keep(-1));
            Houses.STATES_FULL.refused(c, FULL, x -> x.keep(0));
        });
    }

    private static void firm() {
        Check.that("12 firm: 0 and 1", c -> {
            new Edge(c, HOUSE, (x, n) -> x.firm(n)).taken(0, 0).taken(1, 0).refused(OUTSIDE, -1, 2, LEAST, MOST);
            Replay firm = HOUSE.then(x -> x.firm(1));
            new Edge(c, firm, (x, n) -> x.firm(n)).taken(0, 1).taken(1, 1).refused(OUTSIDE, -1, 2);
        });
    }

    private static void change() {
        Check.that("13 change: CHANGES that were made", c -> {
            new Edge(c, HOUSE, (x, n) -> x.change(n, 1)).asked(0, 0).asked(15, 1).asked(17, 0)
                .refused(LOST + UNKNOWN, -1, NEXT, 59, 60, LEAST, MOST);
            new Edge(c, ALL_MADE, (x, n) -> x.change(n, 0)).asked(59, 1).refused(LOST + UNKNOWN, 60);
        });
        Check.that("13 change: what 0 to 7", c -> new Edge(c, HOUSE, (x, n) -> x.change(3, n))
            .asked(0, 0).asked(3, 3).asked(7, 3).refused(LOST + OUTSIDE, -1, 8, LEAST, MOST));
        Check.that("13 change: UNKNOWN, then OUTSIDE", c -> HOUSE.refused(c, LOST + UNKNOWN, x -> x.change(NEXT, 8)));
        Check.that("13 change: WORDS from a PAD of none tell 0, from one of 8 tell 8", c -> {
            HOUSE.due(c, 0, x -> x.change(x.words(1, 1), 4));
            Houses.PAD_FULL.due(c, 8, x -> x.change(x.words(0, 1), 4));
        });
        Check.that("13 change: the first STAMP of a HAND that has nothing is 1", c -> {
            HOUSE.due(c, 1, x -> x.change(x.put(3, 1, -1, -1, 1), 2));
            HOUSE.due(c, 2, x -> {
                x.give(0, 3, 1);
                return x.change(x.put(3, 1, -1, -1, 1), 2);
            });
        });
        Check.that("13 change: the last STAMP of 60 in a row is 60", c -> {
            for (int k = 0; k < 60; k++) c.due(k + 1, c.x.change(c.x.put(4, 1, -1, -1, 1), 2));
        });
    }

    private static void cameAndSay() {
        Check.that("14 came: SOURCES 0 to 5, and STATES that were kept", c -> {
            new Edge(c, HOUSE, (x, n) -> x.came(n, 0)).asked(0, 0).asked(5, NONE).asked(10, 0)
                .refused(UNKNOWN, -1, 6, 9, 11, 17, LEAST, MOST);
            new Edge(c, Houses.STATES_FULL, (x, n) -> x.came(n, 0)).asked(17, 0).refused(UNKNOWN, 18);
        });
        Check.that("14 came: CHANGES that were made; NONE if the SOURCE has it not", c ->
            new Edge(c, HOUSE, (x, n) -> x.came(0, n)).asked(0, 0).asked(17, 0).asked(13, NONE).asked(15, NONE)
                .refused(UNKNOWN, -1, NEXT, 59, 60, 64, LEAST, MOST));
        Check.that("15 say: SOURCES 0 to 5, and STATES that were kept", c -> {
            new Edge(c, HOUSE, (x, n) -> x.say(n, 0)).asked(0, 1).asked(5, 0).asked(10, 1)
                .refused(UNKNOWN, -1, 6, 9, 11, 17, LEAST, MOST);
            new Edge(c, Houses.STATES_FULL, (x, n) -> x.say(n, 0)).asked(17, 1).refused(UNKNOWN, 18);
        });
        Check.that("15 say: CHANGES that were made; 0 if the SOURCE has it not", c ->
            new Edge(c, HOUSE, (x, n) -> x.say(0, n)).asked(0, 1).asked(3, 0).asked(9, 1).asked(17, 1).asked(13, 0)
                .asked(15, 0).refused(UNKNOWN, -1, NEXT, 59, 60, 64, LEAST, MOST));
    }

    public static void main(String[] args) {
        newObject();
        word();
        made();
        put();
        strike();
        move();
        words();
        note();
        tie();
        back();
        give();
        keep();
        firm();
        change();
        cameAndSay();
        Check.end();
    }
}

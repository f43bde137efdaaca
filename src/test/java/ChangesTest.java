/** Promises 1 to 15: a new object, CHANGES, what came of them, their SAY. */
public final class ChangesTest {
    private static final int UNKNOWN = Check.UNKNOWN, OUTSIDE = Check.OUTSIDE, FULL = Check.FULL, NO = Check.NO,
        NONE = Check.NONE, LOST = Check.LOST;

    private static void newObject() {
        Check.that("1 a new object: nothing is there", c -> {
            for (int what = 0; what <= 8; what++) c.due(0, c.x.told(what));
            for (int hand = 0; hand < 6; hand++) {
                c.due(0, c.x.told(10 + hand));
                c.due(0, c.x.told(20 + hand));
                c.dueSeen(hand);
                c.due(251, c.x.digest(hand));
                c.due(0, c.x.open(hand));
            }
            c.due(UNKNOWN, c.x.seen(10, -1));
            c.due(UNKNOWN, c.x.pages(0, 0));
            c.due(UNKNOWN, c.x.pair(0, 0, 0));
            c.due(LOST + UNKNOWN, c.x.change(0, 0));
            c.due(0, c.x.firm(0));
        });
        Check.that("1 a new object: it has nothing of one that was used", c -> {
            BookHouse used = new BookHouse();
            used.put(0, 0, -1, -1, 1);
            used.word(0, 3);
            used.fold(1, 2);
            used.firm(1);
            BookHouse fresh = new BookHouse();
            for (int what = 0; what <= 8; what++) c.due(0, fresh.told(what));
            c.due(0, fresh.told(10));
            c.due(0, fresh.told(20));
        });
    }

    private static void word() {
        Check.that("2 word: how many are on the PAD, 8 at most", c -> {
            for (int i = 1; i <= 8; i++) c.due(i, c.x.word(0, i == 1 ? 1 : 99));
            c.due(FULL, c.x.word(0, 5));
            c.due(8, c.x.told(20));
            c.due(1, c.x.word(5, 7));
            c.due(1, c.x.told(25));
        });
        Check.that("2 word: refusals in order", c -> {
            c.due(UNKNOWN, c.x.word(-1, 0));
            c.due(UNKNOWN, c.x.word(6, 5));
            c.due(OUTSIDE, c.x.word(0, 0));
            c.due(OUTSIDE, c.x.word(0, 100));
            c.pad(0, 1, 2, 3, 4, 5, 6, 7, 8);
            c.due(OUTSIDE, c.x.word(0, -5));
            c.due(FULL, c.x.word(0, 9));
            c.due(8, c.x.told(20));
        });
    }

    private static void put() {
        Check.that("3 put: the PIECE is first, behind one, behind all if that one is elsewhere", c -> {
            c.due(0, c.x.put(0, 0, -1, -1, 0));
            c.due(1, c.x.put(0, 1, -1, -1, 77));
            c.due(2, c.x.put(0, 2, 0, -1, 9));
            c.due(3, c.x.put(0, 1, 0, 2, -4));
            c.due(4, c.x.put(0, 0, 0, 2, 1));
            c.due(5, c.x.put(0, 1, -1, 3, 1));
            c.due(6, c.x.put(0, 1, 0, 0, 1));
            c.dueSeen(0, 1, 0, 2, 4, 3, 6, 5);
        });
        Check.that("3 put: STRUCK ones do for under and behind", c -> {
            c.x.put(0, 0, -1, -1, 1);
            c.x.put(0, 1, 0, -1, 1);
            c.x.strike(0, 0);
            c.x.strike(0, 1);
            c.due(4, c.x.put(0, 1, 0, 1, 1));
            c.due(1, c.x.piece(0, 4, 4));
            c.dueSeen(0);
        });
        Check.that("3 put: refusals in order", c -> {
            c.due(UNKNOWN, c.x.put(6, 3, 7, 7, 0));
            c.due(UNKNOWN, c.x.put(-1, 0, -1, -1, 1));
            c.due(OUTSIDE, c.x.put(0, 3, -1, -1, 1));
            c.due(OUTSIDE, c.x.put(0, -1, -1, -1, 1));
            c.due(OUTSIDE, c.x.put(0, 2, -1, -1, 0));
            c.due(OUTSIDE, c.x.put(0, 2, -1, -1, 10));
            c.due(NO, c.x.put(0, 0, 0, -1, 1));
            c.due(NO, c.x.put(0, 0, -1, 0, 1));
            c.due(NO, c.x.put(0, 0, -2, -1, 1));
            c.due(NO, c.x.put(0, 0, -1, -2, 1));
            c.due(0, c.x.put(0, 1, -1, -1, 1));
            c.due(NO, c.x.put(0, 1, 0, -1, 1));
            c.due(NO, c.x.put(1, 1, -1, 0, 1));
            c.due(1, c.x.put(0, 2, -1, -1, 1));
            c.due(NO, c.x.put(0, 1, 1, -1, 1));
            c.due(2, c.x.strike(0, 0));
            c.due(NO, c.x.put(0, 1, -1, 2, 1));
            c.due(NO, c.x.put(0, 1, -1, 1000, 1));
            c.fillChanges(0);
            c.due(60, c.x.told(0));
            c.due(OUTSIDE, c.x.put(0, 2, 99, -1, 0));
            c.due(FULL, c.x.put(0, 1, 99, -1, 1));
            c.due(FULL, c.x.put(0, 1, -1, -1, 1));
            c.due(60, c.x.told(0));
        });
    }

    private static void strike() {
        Check.that("4 strike: the PIECE and what is in it is not SEEN", c -> {
            int part = c.part(0);
            int in = c.sentence(0, part, 5);
            c.due(3, c.x.strike(0, part));
            c.dueSeen(0);
            c.due(1, c.x.piece(0, part, 1));
            c.due(0, c.x.piece(0, in, 1));
            c.due(4, c.x.strike(0, part));
            c.due(5, c.x.strike(0, in));
        });
        Check.that("4 strike: refusals in order", c -> {
            c.due(UNKNOWN, c.x.strike(6, 0));
            c.due(NO, c.x.strike(0, 0));
            c.due(NO, c.x.strike(0, -1));
            int p = c.part(0);
            c.due(NO, c.x.strike(1, p));
            int s = c.x.strike(0, p);
            c.due(NO, c.x.strike(0, s));
            c.due(NO, c.x.strike(0, 60));
            c.due(NO, c.x.strike(0, 64));
            c.fillChanges(0);
            c.due(UNKNOWN, c.x.strike(-1, p));
            c.due(FULL, c.x.strike(0, 99));
        });
    }

    private static void move() {
        Check.that("5 move: out of its place, first, behind one, behind all if that one is elsewhere", c -> {
            int a = c.part(0);
            int b = c.part(0);
            int s = c.sentence(0, a);
            int t = c.sentence(0, a);
            int u = c.sentence(0, b);
            c.dueSeen(0, a, s, t, b, u);
            c.due(5, c.x.move(0, s, b, u));
            c.dueSeen(0, a, t, b, u, s);
            c.due(6, c.x.move(0, s, b, -1));
            c.dueSeen(0, a, t, b, s, u);
            c.due(7, c.x.move(0, s, b, t));
            c.dueSeen(0, a, t, b, u, s);
            c.due(8, c.x.move(0, b, -1, -1));
            c.dueSeen(0, b, u, s, a, t);
            c.due(9, c.x.move(0, b, a, t));
            c.dueSeen(0, a, t, b, u, s);
            c.due(2, c.x.piece(0, u, 9));
            c.due(10, c.x.move(0, s, -1, a));
            c.dueSeen(0, a, t, b, u, s);
            c.due(-1, c.x.piece(0, s, 3));
        });
        Check.that("5 move: the first, the middle and the last one of a row leave it whole", c -> {
            int[] p = {c.sentence(0, -1), c.sentence(0, -1), c.sentence(0, -1), c.sentence(0, -1)};
            c.x.move(0, p[0], -1, p[3]);
            c.dueSeen(0, p[1], p[2], p[3], p[0]);
            c.x.move(0, p[3], -1, p[1]);
            c.dueSeen(0, p[1], p[3], p[2], p[0]);
            c.x.move(0, p[0], -1, -1);
            c.dueSeen(0, p[0], p[1], p[3], p[2]);
            c.x.move(0, p[1], -1, p[0]);
            c.dueSeen(0, p[0], p[1], p[3], p[2]);
            c.due(-1, c.x.piece(0, p[0], 4));
            c.due(p[0], c.x.piece(0, p[1], 4));
            c.due(p[1], c.x.piece(0, p[3], 4));
            c.due(p[3], c.x.piece(0, p[2], 4));
        });
        Check.that("5 move: it is STRUCK no more, unless FIRM is 1", c -> {
            int s = c.sentence(0, -1);
            c.x.strike(0, s);
            c.x.move(0, s, -1, -1);
            c.due(0, c.x.piece(0, s, 1));
            c.x.firm(1);
            c.due(1, c.x.piece(0, s, 1));
            c.dueSeen(0);
        });
        Check.that("5 move: refusals in order", c -> {
            int a = c.part(0);
            int b = c.x.put(0, 0, a, -1, 1);
            int s = c.x.put(0, 1, b, -1, 1);
            c.due(UNKNOWN, c.x.move(6, s, -1, -1));
            c.due(NO, c.x.move(0, 3, -1, -1));
            c.due(NO, c.x.move(0, -1, -1, -1));
            c.due(NO, c.x.move(0, a, a, -1));
            c.due(NO, c.x.move(0, a, b, -1));
            c.due(NO, c.x.move(0, a, s, -1));
            c.due(NO, c.x.move(0, b, s, -1));
            c.due(NO, c.x.move(0, s, s, -1));
            c.due(NO, c.x.move(0, s, -1, s));
            c.due(NO, c.x.move(0, s, 9, -1));
            c.due(NO, c.x.move(0, s, -2, -1));
            c.due(NO, c.x.move(0, s, -1, 9));
            c.due(NO, c.x.move(0, s, -1, -3));
            c.due(NO, c.x.move(1, s, -1, -1));
            c.due(3, c.x.told(0));
            c.x.strike(0, a);
            c.due(4, c.x.move(0, s, a, b));
            c.fillChanges(0);
            c.due(FULL, c.x.move(0, a, a, -1));
        });
    }

    private static void words() {
        Check.that("6 words: the PAD is taken and emptied, also an empty one", c -> {
            int s = c.sentence(0, -1);
            c.pad(0, 1, 99, 1);
            c.due(1, c.x.words(0, s));
            c.due(0, c.x.told(20));
            c.dueWords(0, s, 1, 99, 1);
            c.pad(0, 8, 7, 6, 5, 4, 3, 2, 1);
            c.due(2, c.x.words(0, s));
            c.dueWords(0, s, 8, 7, 6, 5, 4, 3, 2, 1);
            c.due(3, c.x.words(0, s));
            c.dueWords(0, s);
        });
        Check.that("6 words: it is STRUCK no more, unless FIRM is 1", c -> {
            int s = c.sentence(0, -1);
            c.x.strike(0, s);
            c.say(0, s, 4);
            c.dueSeen(0, s);
            c.x.firm(1);
            c.dueSeen(0);
            c.dueWords(0, s, 4);
        });
        Check.that("6 words: refusals in order, the PAD stays", c -> {
            int part = c.part(0);
            int picture = c.picture(0, -1, 3);
            int s = c.sentence(0, -1);
            c.pad(0, 5);
            c.due(UNKNOWN, c.x.words(6, s));
            c.due(NO, c.x.words(0, part));
            c.due(NO, c.x.words(0, picture));
            c.due(NO, c.x.words(0, 3));
            c.due(NO, c.x.words(0, -1));
            c.due(NO, c.x.words(1, s));
            c.due(1, c.x.told(20));
            c.fillChanges(0);
            c.due(FULL, c.x.words(0, part));
            c.due(FULL, c.x.words(0, s));
            c.due(1, c.x.told(20));
        });
    }

    private static void note() {
        Check.that("7 note: so many lines, 0 to 3; a STRUCK SENTENCE stays so", c -> {
            int s = c.sentence(0, -1);
            c.due(0, c.x.piece(0, s, 7));
            c.due(1, c.x.note(0, s, 3));
            c.due(3, c.x.piece(0, s, 7));
            c.x.strike(0, s);
            c.due(3, c.x.note(0, s, 1));
            c.due(1, c.x.piece(0, s, 7));
            c.due(1, c.x.piece(0, s, 1));
            c.due(4, c.x.note(0, s, 0));
            c.due(0, c.x.piece(0, s, 7));
        });
        Check.that("7 note: refusals in order", c -> {
            int part = c.part(0);
            int s = c.sentence(0, -1);
            c.due(UNKNOWN, c.x.note(6, s, 9));
            c.due(OUTSIDE, c.x.note(0, s, 4));
            c.due(OUTSIDE, c.x.note(0, part, -1));
            c.due(NO, c.x.note(0, part, 1));
            c.due(NO, c.x.note(0, 2, 1));
            c.due(NO, c.x.note(1, s, 1));
            c.fillChanges(0);
            c.due(OUTSIDE, c.x.note(0, s, 4));
            c.due(FULL, c.x.note(0, part, 1));
        });
    }

    private static void tie() {
        Check.that("8 tie: to any PIECE that is THERE, to none", c -> {
            int part = c.part(0);
            int s = c.sentence(0, -1);
            c.due(-1, c.x.piece(0, s, 8));
            c.due(2, c.x.tie(0, s, part));
            c.due(part, c.x.piece(0, s, 8));
            c.due(3, c.x.tie(0, s, s));
            c.due(s, c.x.piece(0, s, 8));
            c.due(4, c.x.tie(0, s, -1));
            c.due(-1, c.x.piece(0, s, 8));
            c.x.strike(0, part);
            c.x.strike(0, s);
            c.due(7, c.x.tie(0, s, part));
            c.due(1, c.x.piece(0, s, 1));
        });
        Check.that("8 tie: refusals in order", c -> {
            int part = c.part(0);
            int s = c.sentence(0, -1);
            c.due(UNKNOWN, c.x.tie(6, s, part));
            c.due(NO, c.x.tie(0, part, s));
            c.due(NO, c.x.tie(0, s, 2));
            c.due(NO, c.x.tie(0, s, -2));
            c.due(NO, c.x.tie(0, 2, part));
            c.due(NO, c.x.tie(1, s, -1));
            c.fillChanges(0);
            c.due(FULL, c.x.tie(0, part, s));
        });
    }

    private static void back() {
        Check.that("9 back: of PUT a STRIKE, of STRIKE a RAISE", c -> {
            int s = c.sentence(0, -1);
            int strike = c.x.back(0, s);
            c.due(1, c.x.change(strike, 0));
            c.due(s, c.x.change(strike, 3));
            c.due(NO, c.x.back(0, s));
            int raise = c.x.back(0, strike);
            c.due(6, c.x.change(raise, 0));
            c.due(s, c.x.change(raise, 3));
            for (int what = 4; what <= 7; what++) c.due(NONE, c.x.change(raise, what));
            c.dueSeen(0, s);
            c.due(NO, c.x.back(0, raise));
            c.due(NO, c.x.back(0, strike));
            c.due(3, c.x.back(0, s));
        });
        Check.that("9 back: of a MOVE, to where the PIECE was ahead of it", c -> {
            int a = c.part(0);
            int s = c.sentence(0, a);
            int t = c.sentence(0, a);
            int first = c.x.move(0, t, -1, -1);
            int second = c.x.move(0, t, -1, a);
            c.due(NO, c.x.back(0, first));
            int b = c.x.back(0, second);
            c.due(2, c.x.change(b, 0));
            c.due(t, c.x.change(b, 3));
            c.due(-1, c.x.change(b, 4));
            c.due(-1, c.x.change(b, 5));
            c.dueSeen(0, t, a, s);
            BookHouse y = new BookHouse();
            y.put(0, 0, -1, -1, 1);
            y.put(0, 1, 0, -1, 1);
            y.put(0, 1, 0, 1, 1);
            y.strike(0, 1);
            int move = y.move(0, 2, -1, -1);
            int back = y.back(0, move);
            c.due(0, y.change(back, 4));
            c.due(1, y.change(back, 5));
        });
        Check.that("9 back: of WORDS, NOTE, TIE, what was just ahead of it as the BOOK is worked", c -> {
            int part = c.part(0);
            int s = c.sentence(0, -1, 5, 6);
            c.x.give(0, 1, 60);
            int mine = c.say(0, s, 5, 7);
            int theirs = c.say(1, s, 8);
            c.x.note(0, s, 2);
            int note = c.x.note(0, s, 3);
            c.x.tie(0, s, part);
            int tie = c.x.tie(0, s, s);
            c.x.give(1, 0, 60);
            c.due(NO, c.x.back(0, mine));
            int b = c.x.back(0, theirs);
            c.due(3, c.x.change(b, 0));
            c.due(0, c.x.change(b, 1));
            c.due(2, c.x.change(b, 4));
            c.dueWords(0, s, 5, 7);
            c.dueWho(0, s, b, b);
            b = c.x.back(0, note);
            c.due(2, c.x.change(b, 4));
            c.due(NONE, c.x.change(b, 5));
            b = c.x.back(0, tie);
            c.due(part, c.x.change(b, 4));
            c.due(NO, c.x.back(0, tie));
        });
        Check.that("9 back: the first WORDS, NOTE, TIE leave none", c -> {
            int s = c.sentence(0, -1);
            c.pad(0, 7);
            int w = c.say(0, s, 1, 2);
            int n = c.x.note(0, s, 1);
            int t = c.x.tie(0, s, s);
            c.pad(0, 7);
            c.due(0, c.x.change(c.x.back(0, w), 4));
            c.due(1, c.x.told(20));
            c.due(0, c.x.change(c.x.back(0, n), 4));
            c.due(-1, c.x.change(c.x.back(0, t), 4));
            c.dueWords(0, s);
            c.due(0, c.x.piece(0, s, 7));
            c.due(-1, c.x.piece(0, s, 8));
        });
        Check.that("9 back: a MOVE is made also if it LOSES", c -> {
            int a = c.part(0);
            int b = c.x.put(0, 0, a, -1, 1);
            int d = c.part(0);
            int moved = c.x.move(0, b, d, -1);
            c.x.move(0, a, b, -1);
            int again = c.x.back(0, moved);
            c.due(5, again);
            c.due(a, c.x.change(again, 4));
            c.due(2, c.x.came(0, again));
            c.due(0, c.x.say(0, again));
            c.due(1, c.x.say(0, moved));
        });
        Check.that("9 back: refusals in order", c -> {
            int s = c.sentence(0, -1);
            c.due(UNKNOWN, c.x.back(6, s));
            c.due(UNKNOWN, c.x.back(1, s));
            c.due(UNKNOWN, c.x.back(0, 1));
            c.due(UNKNOWN, c.x.back(0, -1));
            c.due(UNKNOWN, c.x.back(0, 64));
            c.due(UNKNOWN, c.x.back(0, Integer.MIN_VALUE));
            c.x.strike(0, s);
            c.due(NO, c.x.back(0, s));
            c.fillChanges(0);
            c.due(UNKNOWN, c.x.back(1, s));
            c.due(FULL, c.x.back(0, s));
        });
    }

    private static void give() {
        Check.that("10 give: the first n by STAMPS of those that are not there", c -> {
            int a = c.x.put(0, 1, -1, -1, 1);
            int b = c.x.put(1, 1, -1, -1, 1);
            int d = c.x.put(1, 1, -1, b, 1);
            int e = c.x.put(0, 1, -1, a, 1);
            c.due(2, c.x.give(0, 1, 60));
            c.due(4, c.x.told(11));
            // by STAMPS: a (1, 0), b (1, 1), e (2, 0), d (2, 1)
            c.due(1, c.x.give(1, 2, 1));
            c.due(1, c.x.piece(2, a, 0));
            c.due(2, c.x.give(1, 2, 2));
            c.due(1, c.x.piece(2, b, 0));
            c.due(1, c.x.piece(2, e, 0));
            c.due(0, c.x.piece(2, d, 0));
            c.due(1, c.x.give(1, 2, 60));
            c.due(0, c.x.give(1, 2, 60));
            c.due(0, c.x.give(1, 1, 3));
            c.due(4, c.x.told(12));
            c.due(2, c.x.told(10));
        });
        Check.that("10 give: what two hands have is joined in any order to one book", c -> {
            int a = c.part(0);
            int s = c.sentence(0, a, 1, 2, 3);
            c.x.give(0, 1, 60);
            c.x.give(0, 2, 60);
            c.say(0, s, 1, 9, 3);
            c.x.move(1, s, -1, -1);
            c.x.strike(2, a);
            c.say(2, s, 4);
            c.x.give(0, 3, 60);
            c.x.give(1, 3, 60);
            c.x.give(2, 3, 60);
            c.x.give(2, 4, 60);
            c.x.give(0, 4, 60);
            c.x.give(1, 4, 60);
            c.due(c.x.digest(3), c.x.digest(4));
            c.dueSeen(4, s);
            c.dueWords(4, s, 4);
        });
        Check.that("10 give: refusals in order", c -> {
            c.due(UNKNOWN, c.x.give(6, 0, 0));
            c.due(UNKNOWN, c.x.give(0, -1, 0));
            c.due(UNKNOWN, c.x.give(0, 10, 5));
            c.due(OUTSIDE, c.x.give(0, 1, 0));
            c.due(OUTSIDE, c.x.give(0, 1, 61));
            c.due(0, c.x.give(0, 1, 1));
        });
    }

    private static void keep() {
        Check.that("11 keep: what the HAND has then; 8 at most", c -> {
            int s = c.sentence(0, -1, 5);
            c.due(10, c.x.keep(0));
            c.say(0, s, 6);
            c.sentence(0, -1);
            for (int k = 1; k < 8; k++) c.due(10 + k, c.x.keep(k == 1 ? 1 : 0));
            c.dueWords(10, s, 5);
            c.dueWords(12, s, 6);
            c.dueSeen(10, s);
            c.dueSeen(11);
            c.due(2, c.x.seen(17, -1));
            c.due(FULL, c.x.keep(0));
            c.due(UNKNOWN, c.x.keep(6));
            c.due(UNKNOWN, c.x.keep(-1));
            c.due(UNKNOWN, c.x.keep(10));
            c.due(8, c.x.told(1));
            c.due(UNKNOWN, c.x.seen(18, -1));
        });
    }

    private static void firm() {
        Check.that("12 firm: which it was; all books are worked with it as it is now", c -> {
            int s = c.sentence(0, -1, 5);
            c.x.strike(0, s);
            c.say(0, s, 6);
            c.x.keep(0);
            c.due(0, c.x.firm(1));
            c.due(1, c.x.firm(1));
            c.due(1, c.x.told(8));
            c.dueSeen(10);
            c.due(OUTSIDE, c.x.firm(2));
            c.due(OUTSIDE, c.x.firm(-1));
            c.due(1, c.x.firm(0));
            c.dueSeen(10, s);
        });
    }

    private static void change() {
        Check.that("13 change: what each KIND tells", c -> {
            int part = c.x.put(2, 0, -1, -1, 8);
            int s = c.x.put(2, 1, part, -1, 8);
            int picture = c.x.put(2, 2, part, s, 4);
            int words = c.say(2, s, 3, 4, 5);
            int note = c.x.note(2, s, 2);
            int tie = c.x.tie(2, s, picture);
            int none = c.x.tie(2, s, -1);
            int move = c.x.move(2, s, part, picture);
            int strike = c.x.strike(2, s);
            int raise = c.x.back(2, strike);
            int[][] due = {{0, 2, 1, part, -1, -1, 0, 0}, {0, 2, 2, s, part, -1, 1, 0},
                {0, 2, 3, picture, part, s, 2, 4}, {3, 2, 4, s, 3, NONE, NONE, NONE},
                {4, 2, 5, s, 2, NONE, NONE, NONE}, {5, 2, 6, s, picture, NONE, NONE, NONE},
                {5, 2, 7, s, -1, NONE, NONE, NONE}, {2, 2, 8, s, part, picture, NONE, NONE},
                {1, 2, 9, s, NONE, NONE, NONE, NONE}, {6, 2, 10, s, NONE, NONE, NONE, NONE}};
            int[] changes = {part, s, picture, words, note, tie, none, move, strike, raise};
            for (int k = 0; k < due.length; k++) {
                for (int what = 0; what < 8; what++) c.due(due[k][what], c.x.change(changes[k], what));
            }
        });
        Check.that("13 change: the count of a STAMP goes by what the HAND has then", c -> {
            int a = c.sentence(0, -1);
            int b = c.x.note(0, a, 1);
            int d = c.sentence(1, -1);
            c.due(2, c.x.change(b, 2));
            c.due(1, c.x.change(d, 2));
            c.x.give(0, 1, 1);
            int e = c.sentence(1, -1);
            c.due(2, c.x.change(e, 2));
            c.x.give(0, 1, 1);
            c.due(3, c.x.change(c.sentence(1, -1), 2));
        });
        Check.that("13 change: refusals in order", c -> {
            c.sentence(0, -1);
            c.due(LOST + UNKNOWN, c.x.change(1, 9));
            c.due(LOST + UNKNOWN, c.x.change(-1, 0));
            c.due(LOST + OUTSIDE, c.x.change(0, 8));
            c.due(LOST + OUTSIDE, c.x.change(0, -1));
        });
    }

    private static void came() {
        Check.that("14 came: it came about, it LOSES, it is not there", c -> {
            int a = c.part(0);
            int b = c.part(0);
            int s = c.sentence(0, b);
            c.x.strike(0, a);
            c.x.give(0, 1, 60);
            int ba = c.x.move(0, b, a, -1);
            int ab = c.x.move(1, a, b, -1);
            c.due(0, c.x.came(0, ba));
            c.due(0, c.x.came(1, ab));
            c.due(NONE, c.x.came(0, ab));
            c.due(NONE, c.x.came(1, ba));
            c.dueSeen(0);
            c.dueSeen(1, b, a, s);
            c.x.give(0, 1, 60);
            c.x.give(1, 0, 60);
            c.due(0, c.x.came(1, ba));
            c.due(2, c.x.came(1, ab));
            // what LOSES does not raise a STRUCK PIECE either
            c.due(1, c.x.piece(1, a, 1));
            c.due(-1, c.x.piece(1, a, 3));
            c.due(a, c.x.piece(1, b, 3));
            c.dueSeen(1);
            c.due(0, c.x.came(0, a));
            c.due(NONE, c.x.came(2, a));
        });
        Check.that("14 came: UNKNOWN", c -> {
            c.part(0);
            c.due(UNKNOWN, c.x.came(6, 0));
            c.due(UNKNOWN, c.x.came(10, 0));
            c.due(UNKNOWN, c.x.came(0, 1));
            c.due(UNKNOWN, c.x.came(0, -1));
        });
    }

    private static void say() {
        Check.that("15 say: PUT while it is not STRUCK, STRIKE while it is the latest", c -> {
            int part = c.part(0);
            int s = c.sentence(0, part);
            c.due(1, c.x.say(0, s));
            c.due(0, c.x.say(1, s));
            int one = c.x.strike(0, s);
            c.due(0, c.x.say(0, s));
            c.due(1, c.x.say(0, one));
            int two = c.x.strike(0, s);
            c.due(0, c.x.say(0, one));
            c.due(1, c.x.say(0, two));
            int raise = c.x.back(0, two);
            c.due(0, c.x.say(0, two));
            c.due(0, c.x.say(0, raise));
            c.due(1, c.x.say(0, s));
            c.x.strike(0, part);
            c.due(1, c.x.say(0, s));
            c.due(0, c.x.say(0, part));
        });
        Check.that("15 say: MOVE and WORDS take it from a STRIKE if FIRM is 0; NOTE and TIE do not", c -> {
            int s = c.sentence(0, -1);
            int one = c.x.strike(0, s);
            c.x.note(0, s, 1);
            c.x.tie(0, s, s);
            c.due(1, c.x.say(0, one));
            c.x.move(0, s, -1, -1);
            c.due(0, c.x.say(0, one));
            c.x.firm(1);
            c.due(1, c.x.say(0, one));
            c.x.firm(0);
            int two = c.x.strike(0, s);
            c.due(1, c.x.say(0, two));
            c.say(0, s, 3);
            c.due(0, c.x.say(0, two));
            c.x.firm(1);
            c.due(1, c.x.say(0, two));
        });
        Check.that("15 say: a MOVE that LOSES takes it from none, and has none", c -> {
            int a = c.part(0);
            int b = c.part(0);
            c.x.give(0, 1, 60);
            int earlier = c.x.move(1, a, -1, b);
            int strike = c.x.strike(1, a);
            c.x.give(1, 0, 60);
            int ba = c.x.move(0, b, a, -1);
            int ab = c.x.move(1, a, b, -1);
            c.x.give(0, 1, 60);
            c.due(2, c.x.came(1, ab));
            c.due(0, c.x.say(1, ab));
            c.due(1, c.x.say(1, earlier));
            c.due(1, c.x.say(1, strike));
            c.due(1, c.x.say(1, ba));
            c.due(NO, c.x.back(1, ab));
        });
        Check.that("15 say: the latest by STAMPS of its KIND for its PIECE", c -> {
            int s = c.sentence(0, -1);
            int t = c.sentence(0, -1);
            c.x.give(0, 1, 60);
            int later = c.x.note(1, s, 2);
            int sooner = c.x.note(0, s, 1);
            int of = c.x.note(0, t, 1);
            c.x.give(1, 0, 60);
            c.due(1, c.x.say(0, later));
            c.due(0, c.x.say(0, sooner));
            c.due(1, c.x.say(0, of));
            c.due(2, c.x.piece(0, s, 7));
            int tie = c.x.tie(0, s, t);
            c.due(1, c.x.say(0, tie));
            c.due(1, c.x.say(0, later));
        });
        Check.that("15 say: UNKNOWN", c -> {
            c.part(0);
            c.due(UNKNOWN, c.x.say(6, 0));
            c.due(UNKNOWN, c.x.say(0, 1));
            c.due(UNKNOWN, c.x.say(0, -1));
            c.due(UNKNOWN, c.x.say(10, 0));
        });
    }

    public static void main(String[] args) {
        newObject();
        word();
        put();
        strike();
        move();
        words();
        note();
        tie();
        back();
        give();
        keep();
        firm();
        change();
        came();
        say();
        Check.end();
    }
}

/** Promises 21 and 22: CLASHES and how they are settled. */
public final class ClashesTest {
    private static final int UNKNOWN = Check.UNKNOWN, OUTSIDE = Check.OUTSIDE, FULL = Check.FULL, NO = Check.NO,
        NONE = Check.NONE;

    private static void clash() {
        Check.that("21 clash: KINDS of both upon one PIECE, in order of PIECES, then KINDS", c -> {
            int a = c.part(0);
            int s = c.sentence(0, a);
            int t = c.sentence(0, a);
            c.x.give(0, 1, 60);
            c.x.move(0, t, -1, -1);
            c.say(0, t, 5);
            c.x.note(0, t, 1);
            c.x.tie(0, t, a);
            c.x.strike(0, s);
            c.x.strike(0, a);
            c.x.tie(1, t, s);
            c.x.note(1, t, 1);
            c.say(1, t, 5);
            c.x.move(1, t, -1, -1);
            c.say(1, s, 6);
            c.x.strike(1, a);
            int[] due = {10 * s + 4, 10 * t, 10 * t + 1, 10 * t + 2, 10 * t + 3};
            for (int way = 0; way < 2; way++) {
                c.due(5, c.x.clash(way, 1 - way, -1));
                for (int i = 0; i < 5; i++) c.due(due[i], c.x.clash(way, 1 - way, i));
                c.due(NONE, c.x.clash(way, 1 - way, 5));
                c.due(NONE, c.x.clash(way, 1 - way, -2));
            }
        });
        Check.that("21 clash: CHANGES that both have are left out; other KINDS do not clash", c -> {
            int a = c.part(0);
            int s = c.sentence(0, -1, 3);
            int strike = c.x.strike(0, s);
            c.x.give(0, 1, 60);
            c.say(1, s, 4);
            c.due(0, c.x.clash(0, 1, -1));
            c.x.note(0, s, 1);
            c.x.tie(0, s, a);
            c.x.move(0, a, -1, s);
            c.due(0, c.x.clash(0, 1, -1));
            c.x.back(0, strike);
            c.x.keep(0);
            c.due(0, c.x.clash(10, 1, -1));
            c.x.strike(0, s);
            c.due(0, c.x.clash(10, 1, -1));
            c.due(1, c.x.clash(0, 1, -1));
            c.due(10 * s + 4, c.x.clash(1, 0, 0));
            c.x.give(0, 1, 60);
            c.due(0, c.x.clash(0, 1, -1));
            c.due(NONE, c.x.clash(0, 1, 0));
        });
        Check.that("21 clash: a STRIKE against a MOVE, and each of both ways", c -> {
            int s = c.sentence(0, -1);
            int t = c.sentence(0, -1);
            c.x.give(0, 1, 60);
            c.x.strike(0, s);
            c.x.move(1, s, -1, t);
            c.x.strike(1, t);
            c.x.move(0, t, -1, -1);
            c.due(2, c.x.clash(0, 1, -1));
            c.due(10 * s + 4, c.x.clash(0, 1, 0));
            c.due(10 * t + 4, c.x.clash(0, 1, 1));
        });
        Check.that("21 clash: a RAISE counts not, a MOVE that LOSES counts", c -> {
            int b = c.part(0);
            int strike = c.x.strike(0, b);
            c.x.give(0, 1, 60);
            c.x.back(0, strike);
            c.x.move(1, b, -1, -1);
            c.due(0, c.x.clash(0, 1, -1));
            BookHouse y = new BookHouse();
            y.put(0, 0, -1, -1, 1);
            y.put(0, 0, -1, -1, 1);
            y.give(0, 1, 60);
            y.move(0, 0, 1, -1);
            y.move(1, 1, 0, -1);
            y.give(0, 1, 60);
            c.due(2, y.came(1, 3));
            y.move(0, 1, -1, -1);
            c.due(10, y.clash(0, 1, 0));
        });
        Check.that("21 clash: UNKNOWN", c -> {
            c.due(UNKNOWN, c.x.clash(6, 0, -1));
            c.due(UNKNOWN, c.x.clash(0, 10, -1));
            c.due(UNKNOWN, c.x.clash(0, -1, 0));
            c.due(0, c.x.clash(0, 1, -1));
        });
    }

    private static void settle() {
        Check.that("22 settle: place, WORDS, NOTE, TIE, STRUCK or not, as in the SOURCE", c -> {
            int a = c.part(0);
            int s = c.sentence(0, a, 1, 2);
            int t = c.sentence(0, a);
            c.x.give(0, 1, 60);
            c.x.move(1, s, a, t);
            c.say(1, s, 7, 8, 9);
            c.x.note(1, s, 3);
            c.x.tie(1, s, t);
            c.x.strike(1, s);
            c.pad(0, 50);
            int n = c.x.told(0);
            int[][] due = {{2, a, t}, {3, 3, NONE}, {4, 3, NONE}, {5, t, NONE}, {1, NONE, NONE}};
            for (int kind = 0; kind <= 4; kind++) {
                c.due(n + kind, c.x.settle(0, s, kind, 1));
                c.due(due[kind][0], c.x.change(n + kind, 0));
                c.due(0, c.x.change(n + kind, 1));
                c.due(s, c.x.change(n + kind, 3));
                c.due(due[kind][1], c.x.change(n + kind, 4));
                c.due(due[kind][2], c.x.change(n + kind, 5));
            }
            c.dueWords(0, s, 7, 8, 9);
            for (int what = 0; what < 10; what++) c.due(c.x.piece(1, s, what), c.x.piece(0, s, what));
            c.due(1, c.x.told(20));
            c.due(NO, c.x.settle(0, s, 4, 2));
            c.due(n + 5, c.x.settle(0, t, 4, 1));
            c.due(6, c.x.change(n + 5, 0));
        });
        Check.that("22 settle: STRUCK alone, not what is around it; from a STATE, from itself", c -> {
            int a = c.part(0);
            int s = c.sentence(0, a);
            c.x.strike(0, a);
            c.x.keep(0);
            c.due(6, c.x.change(c.x.settle(0, s, 4, 10), 0));
            c.due(1, c.x.change(c.x.settle(0, a, 4, 10), 0));
            c.due(2, c.x.change(c.x.settle(0, s, 0, 0), 0));
            c.due(0, c.x.change(c.x.settle(0, s, 1, 0), 4));
            c.due(-1, c.x.change(c.x.settle(0, s, 3, 0), 4));
        });
        Check.that("22 settle: what it goes behind is not in the HAND's BOOK: then behind all", c -> {
            int a = c.part(0);
            int s = c.sentence(0, a);
            int t = c.sentence(0, a);
            c.x.give(0, 1, 60);
            int u = c.x.put(1, 1, a, -1, 1);
            c.x.move(1, s, a, u);
            c.dueSeen(1, a, u, s, t);
            int change = c.x.settle(0, s, 0, 1);
            c.due(2, c.x.change(change, 0));
            c.dueSeen(0, a, t, s);
            c.x.give(1, 0, 60);
            c.dueSeen(0, a, u, s, t);
        });
        Check.that("22 settle: a TIE to what is not in the HAND's BOOK is kept and tells nothing", c -> {
            int s = c.sentence(0, -1);
            c.x.give(0, 1, 60);
            int t = c.sentence(1, -1);
            c.x.tie(1, s, t);
            int change = c.x.settle(0, s, 3, 1);
            c.due(t, c.x.change(change, 4));
            c.due(0, c.x.came(0, change));
            c.due(t, c.x.piece(0, s, 8));
            int e = c.x.edition(0, 0, 10, 10);
            c.due(NONE, c.x.onPage(e, s, 3));
            c.due(0, c.x.onPage(e, s, 1));
        });
        Check.that("22 settle: NO where it can not go", c -> {
            int a = c.part(0);
            int b = c.part(0);
            int s = c.sentence(0, a, 5);
            c.x.give(0, 1, 60);
            int d = c.part(1);
            c.x.move(1, s, d, -1);
            c.due(NO, c.x.settle(0, s, 0, 1));
            c.x.move(0, b, a, -1);
            c.x.move(1, a, b, -1);
            c.due(NO, c.x.settle(0, a, 0, 1));
            c.due(NO, c.x.settle(0, d, 0, 1));
            c.due(NO, c.x.settle(1, d, 4, 0));
            c.due(NO, c.x.settle(0, -1, 0, 1));
            c.due(NO, c.x.settle(0, 1000, 4, 1));
            for (int kind = 1; kind <= 3; kind++) c.due(NO, c.x.settle(0, a, kind, 1));
            c.due(2, c.x.change(c.x.settle(0, b, 0, 1), 0));
        });
        Check.that("22 settle: refusals in order", c -> {
            int a = c.part(0);
            c.due(UNKNOWN, c.x.settle(6, a, 9, 0));
            c.due(UNKNOWN, c.x.settle(0, a, 9, 6));
            c.due(UNKNOWN, c.x.settle(0, a, 0, 10));
            c.due(UNKNOWN, c.x.settle(-1, a, 0, 0));
            c.due(OUTSIDE, c.x.settle(0, 9, 5, 0));
            c.due(OUTSIDE, c.x.settle(0, a, -1, 0));
            c.fillChanges(0);
            c.due(OUTSIDE, c.x.settle(0, a, 5, 0));
            c.due(FULL, c.x.settle(0, 99, 0, 0));
        });
    }

    public static void main(String[] args) {
        clash();
        settle();
        Check.end();
    }
}

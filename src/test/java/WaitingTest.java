/** CHANGES that WAIT, of promise 14 and 2 of the terms; TIES and places that tell of what is not THERE. */
public final class WaitingTest {
    private static final int NO = Check.NO, NONE = Check.NONE, LOST = Check.LOST, STATE = Check.STATE;
    private static final int CAME = 0, WAITS = 1, LOSES = 2;

    private static void dueCame(Check.Case c, int source, int due, int... changes) {
        for (int change : changes) {
            c.due(due, c.x.came(source, change));
            if (due != CAME) c.due(0, c.x.say(source, change));
        }
    }

    private static void puts() {
        Check.that("14 came: a PUT WAITS if its PART is not THERE, and all that is in it", c -> {
            int a = c.part(0);
            int b = c.part(0, a);
            int s = c.sentence(0, b, 1);
            int beside = c.sentence(0, -1, 2);
            c.x.give(0, 1, 60);
            Gaps.takeAway(c.x, 1, a);
            dueCame(c, 1, NONE, a);
            dueCame(c, 1, WAITS, b, s, s + 1);
            dueCame(c, 1, CAME, beside, beside + 1);
            c.dueSeen(1, beside);
            c.due(0, c.x.piece(1, b, 0));
            c.due(0, c.x.piece(1, s, 0));
            for (int what = 1; what < 10; what++) c.due(LOST + STATE, c.x.piece(1, s, what));
            c.due(NO, c.x.put(1, 1, b, -1, 1));
            c.due(NO, c.x.words(1, s));
            c.due(NO, c.x.back(1, s));
            c.due(NO, c.x.yes(1, s));
            c.due(NO, c.x.settle(1, s, 4, 0));
            c.due(NO, c.x.settle(0, s, 4, 1));
            c.x.rule(0, s);
            c.due(1, c.x.open(0));
            c.due(0, c.x.open(1));
            // as the PART comes, all comes about
            c.due(1, c.x.give(0, 1, 60));
            dueCame(c, 1, CAME, a, b, s, s + 1);
            c.due(c.x.digest(0), c.x.digest(1));
        });
        Check.that("14 came: a PUT behind a PIECE that is not THERE goes behind all", c -> {
            int a = c.sentence(0, -1);
            int b = c.sentence(0, -1);
            int d = c.x.put(0, 1, -1, a, 1);
            c.x.give(0, 1, 60);
            c.dueSeen(1, a, d, b);
            Gaps.takeAway(c.x, 1, a);
            dueCame(c, 1, CAME, d);
            c.dueSeen(1, b, d);
        });
    }

    private static void others() {
        Check.that("14 came: all but PUT WAIT, if the PIECE is not THERE", c -> {
            int s = c.sentence(0, -1);
            int strike = c.x.strike(0, s);
            int[] changes = {strike, c.x.back(0, strike), c.x.move(0, s, -1, -1), c.say(0, s, 1), c.x.note(0, s, 1),
                c.x.tie(0, s, s)};
            int[] kinds = {1, 6, 2, 3, 4, 5};
            c.x.give(0, 1, 60);
            dueCame(c, 1, CAME, changes);
            Gaps.takeAway(c.x, 1, s);
            dueCame(c, 1, WAITS, changes);
            for (int k = 0; k < 6; k++) {
                c.due(kinds[k], c.x.change(changes[k], 0));
                c.due(NO, c.x.back(1, changes[k]));
            }
            c.dueSeen(1);
            c.due(251, c.x.digest(1));
        });
        Check.that("14 came: a STRIKE that WAITS has no SAY, though it is the latest", c -> {
            int s = c.sentence(0, -1);
            int strike = c.x.strike(0, s);
            c.x.give(0, 1, 60);
            c.due(1, c.x.say(1, strike));
            Gaps.takeAway(c.x, 1, s);
            dueCame(c, 1, WAITS, strike);
            c.due(NO, c.x.back(1, strike));
            c.due(2, c.x.told(0));
        });
        Check.that("14 came: a MOVE WAITS, if the PART is not THERE: place, being STRUCK and SAY stay", c -> {
            int a = c.part(0);
            int b = c.part(0);
            int s = c.sentence(0, a);
            int t = c.sentence(0, a);
            int first = c.x.move(0, s, a, t);
            int strike = c.x.strike(0, s);
            int to = c.x.move(0, s, b, -1);
            c.x.give(0, 1, 60);
            c.due(b, c.x.piece(1, s, 3));
            c.due(0, c.x.piece(1, s, 1));
            Gaps.takeAway(c.x, 1, b);
            dueCame(c, 1, WAITS, to);
            c.due(a, c.x.piece(1, s, 3));
            c.due(t, c.x.piece(1, s, 4));
            c.due(1, c.x.piece(1, s, 1));
            c.due(1, c.x.say(1, first));
            c.due(1, c.x.say(1, strike));
            c.due(0, c.x.say(0, first));
            c.due(0, c.x.say(0, strike));
        });
        Check.that("14 came: a MOVE of what is not THERE WAITS, also one that would LOSE", c -> {
            int a = c.part(0);
            int b = c.part(0);
            c.x.give(0, 1, 60);
            c.x.move(0, b, a, -1);
            int lost = c.x.move(1, a, b, -1);
            c.x.give(0, 1, 60);
            dueCame(c, 1, LOSES, lost);
            Gaps.takeAway(c.x, 1, a);
            dueCame(c, 1, WAITS, lost);
            c.x.give(0, 1, 60);
            dueCame(c, 1, LOSES, lost);
            Gaps.takeAway(c.x, 1, b);
            dueCame(c, 1, WAITS, lost);
        });
        Check.that("14 came: a MOVE behind a PIECE that is not THERE goes behind all", c -> {
            int a = c.sentence(0, -1);
            int b = c.sentence(0, -1);
            int d = c.sentence(0, -1);
            int move = c.x.move(0, d, -1, a);
            c.x.give(0, 1, 60);
            c.dueSeen(1, a, d, b);
            Gaps.takeAway(c.x, 1, a);
            dueCame(c, 1, CAME, move);
            c.dueSeen(1, b, d);
        });
        Check.that("14 came: a TIE to a PIECE that is not THERE is kept, comes about, and tells nothing", c -> {
            int a = c.part(0);
            int s = c.sentence(0, -1, 1);
            int tie = c.x.tie(0, s, a);
            c.x.give(0, 1, 60);
            Gaps.takeAway(c.x, 1, a);
            dueCame(c, 1, CAME, tie);
            c.due(1, c.x.say(1, tie));
            c.due(a, c.x.piece(1, s, 8));
            c.x.edition(0, 0, 10, 10);
            c.x.edition(1, 0, 10, 10);
            c.due(1, c.x.onPage(0, s, 3));
            c.due(NONE, c.x.onPage(1, s, 3));
            c.due(2, c.x.line(0, s, 0));
            c.due(1, c.x.line(1, s, 0));
            c.due(1, c.x.reach(0, 1, 2));
        });
    }

    private static void clashes() {
        Check.that("21 clash: CHANGES that WAIT count, too", c -> {
            int s = c.sentence(0, -1);
            int part = c.part(0);
            c.x.give(0, 1, 60);
            c.x.note(0, s, 1);
            c.x.move(0, s, part, -1);
            int note = c.x.note(1, s, 1);
            int move = c.x.move(1, s, part, -1);
            Gaps.takeAway(c.x, 1, part);
            dueCame(c, 1, WAITS, move);
            dueCame(c, 1, CAME, note);
            c.due(2, c.x.clash(0, 1, -1));
            Gaps.takeAway(c.x, 1, s);
            dueCame(c, 1, WAITS, move, note);
            c.due(2, c.x.clash(0, 1, -1));
            c.due(10 * s, c.x.clash(0, 1, 0));
            c.due(10 * s + 2, c.x.clash(1, 0, 1));
        });
    }

    public static void main(String[] args) {
        puts();
        others();
        clashes();
        Check.end();
    }
}

/** Promises 23 to 26: RULES, YESES, FOLDS. */
public final class YesTest {
    private static final int UNKNOWN = Check.UNKNOWN, OUTSIDE = Check.OUTSIDE, FULL = Check.FULL, NO = Check.NO;

    private static void rule() {
        Check.that("23 rule: how many; of any PUT that was made, or the BOOK; 6 at most", c -> {
            int s = c.sentence(0, -1);
            c.due(1, c.x.rule(3, s));
            c.due(2, c.x.rule(3, s));
            c.due(3, c.x.rule(3, -1));
            for (int k = 4; k <= 6; k++) c.due(k, c.x.rule(0, -1));
            c.due(FULL, c.x.rule(0, s));
            c.due(6, c.x.told(2));
            c.due(UNKNOWN, c.x.rule(6, s));
            c.due(UNKNOWN, c.x.rule(0, s + 1));
        });
        Check.that("23 rule: refusals", c -> {
            int s = c.sentence(0, -1, 3);
            c.due(UNKNOWN, c.x.rule(-1, s));
            c.due(UNKNOWN, c.x.rule(6, -1));
            c.due(UNKNOWN, c.x.rule(0, s + 1));
            c.due(UNKNOWN, c.x.rule(0, s + 2));
            c.due(UNKNOWN, c.x.rule(0, -2));
            c.due(0, c.x.told(2));
        });
    }

    private static void yes() {
        Check.that("24 yes: how many, 20 at most; to what is SEEN in the HAND's BOOK", c -> {
            int a = c.part(0);
            int s = c.sentence(0, a);
            int struck = c.sentence(0, -1);
            c.x.strike(0, struck);
            c.due(UNKNOWN, c.x.yes(6, s));
            c.due(NO, c.x.yes(1, s));
            c.due(NO, c.x.yes(0, struck));
            c.due(NO, c.x.yes(0, 99));
            c.due(NO, c.x.yes(0, -2));
            c.due(1, c.x.yes(1, -1));
            c.due(2, c.x.yes(0, s));
            c.due(3, c.x.yes(0, a));
            c.x.strike(0, a);
            c.due(NO, c.x.yes(0, s));
            for (int k = 4; k <= 20; k++) c.due(k, c.x.yes(0, -1));
            c.due(FULL, c.x.yes(0, -1));
            c.due(FULL, c.x.yes(0, s));
            c.due(UNKNOWN, c.x.yes(-1, s));
            c.due(20, c.x.told(3));
        });
        Check.that("24 yes: it covers the WORDS of then, of the SENTENCE itself too", c -> {
            int s = c.sentence(0, -1, 5, 6);
            c.x.rule(0, s);
            c.x.yes(0, s);
            c.due(0, c.x.open(0));
            c.x.keep(0);
            c.say(0, s, 5);
            c.due(1, c.x.open(0));
            c.due(0, c.x.open(10));
            c.say(0, s, 5, 6);
            c.due(0, c.x.open(0));
        });
        Check.that("24 yes: STRUCK SENTENCES are not covered", c -> {
            int a = c.part(0);
            c.sentence(0, a, 1);
            int t = c.sentence(0, a, 2);
            c.x.rule(0, a);
            c.x.yes(0, a);
            int strike = c.x.strike(0, t);
            c.due(1, c.x.open(0));
            c.x.yes(0, a);
            c.due(0, c.x.open(0));
            c.x.back(0, strike);
            c.due(1, c.x.open(0));
        });
    }

    private static void open() {
        Check.that("25 open: RULES that are not MET, as bits", c -> {
            int a = c.part(0);
            int s = c.sentence(0, a, 1);
            int t = c.sentence(0, a, 2);
            c.x.rule(0, a);
            c.x.rule(1, a);
            c.x.rule(0, s);
            c.x.rule(0, t);
            c.x.rule(1, -1);
            c.x.rule(0, -1);
            c.due(63, c.x.open(0));
            c.x.yes(0, s);
            c.due(63 - 4, c.x.open(0));
            c.x.yes(0, a);
            c.due(63 - 4 - 1 - 8, c.x.open(0));
            c.x.yes(0, -1);
            c.due(2 + 16, c.x.open(0));
            c.x.give(0, 1, 60);
            c.x.yes(1, -1);
            c.due(0, c.x.open(0));
            c.x.strike(0, s);
            c.due(63 - 4, c.x.open(0));
            c.due(0, c.x.open(1));
            c.x.strike(0, a);
            // the PIECES are not SEEN, the BOOK always is
            c.due(16 + 32, c.x.open(0));
        });
        Check.that("25 open: the latest YES counts, were an earlier one covering, too", c -> {
            int a = c.part(0);
            int s = c.sentence(0, a, 1);
            int t = c.sentence(0, a, 2);
            c.x.rule(0, s);
            c.x.yes(0, s);
            c.x.yes(0, a);
            c.say(0, t, 3);
            c.due(1, c.x.open(0));
            c.x.yes(0, s);
            c.due(0, c.x.open(0));
            c.x.yes(0, t);
            c.due(0, c.x.open(0));
            c.x.yes(1, -1);
            c.due(0, c.x.open(0));
        });
        Check.that("25 open: a YES to a PART in which the PIECE is in that SOURCE", c -> {
            int a = c.part(0);
            int s = c.sentence(0, a, 1);
            c.x.rule(0, s);
            c.x.yes(0, a);
            c.due(0, c.x.open(0));
            c.x.keep(0);
            c.x.move(0, s, -1, -1);
            c.due(1, c.x.open(0));
            c.due(0, c.x.open(10));
        });
        Check.that("25 open: sentences' ends do not count, order does", c -> {
            int s = c.sentence(0, -1, 1, 2);
            int t = c.sentence(0, -1, 3);
            c.x.rule(0, -1);
            c.x.yes(0, -1);
            c.say(0, s, 1);
            c.say(0, t, 2, 3);
            c.due(0, c.x.open(0));
            c.x.move(0, t, -1, -1);
            c.due(1, c.x.open(0));
            c.say(0, s, 2, 3);
            c.say(0, t, 1);
            c.due(0, c.x.open(0));
            c.say(0, s, 2, 3, 4);
            c.due(1, c.x.open(0));
        });
        Check.that("25 open: all WORDS that a book can have are covered", c -> {
            for (int k = 0; k < 29; k++) c.sentence(0, -1, 1, 2, 3, 4, 5, 6, 7, 8);
            c.x.rule(0, -1);
            c.x.yes(0, -1);
            int last = c.lastIn(0, -1);
            c.say(0, last, 1, 2, 3, 4, 5, 6, 7, 9);
            c.due(1, c.x.open(0));
            c.say(0, last, 1, 2, 3, 4, 5, 6, 7, 8);
            c.due(60, c.x.told(0));
            c.due(0, c.x.open(0));
            c.due(1, c.x.open(1));
        });
        Check.that("25 open: thirty SENTENCES of eight WORDS, the most that there can be", c -> {
            for (int k = 0; k < 30; k++) c.sentence(0, -1, 1, 2, 3, 4, 5, 6, 7, k + 1);
            c.due(60, c.x.told(0));
            c.x.rule(0, -1);
            c.x.yes(0, -1);
            c.due(0, c.x.open(0));
            c.x.give(0, 1, 59);
            c.due(1, c.x.open(1));
        });
        Check.that("25 open: UNKNOWN", c -> {
            c.due(UNKNOWN, c.x.open(6));
            c.due(UNKNOWN, c.x.open(-1));
            c.due(UNKNOWN, c.x.open(10));
        });
    }

    private static void fold() {
        Check.that("26 fold: WORDS that hang together are alike", c -> {
            int s = c.sentence(0, -1, 1);
            c.x.rule(0, s);
            c.x.yes(0, s);
            c.due(1, c.x.fold(1, 2));
            c.due(2, c.x.fold(3, 4));
            c.say(0, s, 4);
            c.due(1, c.x.open(0));
            c.due(3, c.x.fold(4, 2));
            c.due(0, c.x.open(0));
            c.say(0, s, 3);
            c.due(0, c.x.open(0));
            c.say(0, s, 5);
            c.due(1, c.x.open(0));
        });
        Check.that("26 fold: how many, 8 at most; refusals in order", c -> {
            c.due(OUTSIDE, c.x.fold(0, 5));
            c.due(OUTSIDE, c.x.fold(5, 100));
            c.due(OUTSIDE, c.x.fold(5, 5));
            for (int k = 1; k <= 8; k++) c.due(k, c.x.fold(1, 99));
            c.due(FULL, c.x.fold(1, 2));
            c.due(OUTSIDE, c.x.fold(2, 2));
            c.due(8, c.x.told(4));
            c.pad(0, 2);
            c.sentence(1, -1, 1);
            c.due(0, c.x.seek(1, 0, -1));
        });
    }

    public static void main(String[] args) {
        rule();
        yes();
        open();
        fold();
        Check.end();
    }
}

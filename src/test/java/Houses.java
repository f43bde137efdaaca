/**
 * The house on which edges are tried: something of everything, every row of it neither empty nor full. The PIECES of
 * hand 0, as they are read; what is STRUCK is in brackets:
 *
 *     0 PART
 *         1 SENTENCE "5 6 7", a NOTE of 2 lines, a TIE to 5
 *         2 SENTENCE without WORDS
 *         4 PART
 *             5 SENTENCE "5 6"
 *     (3 PICTURE, 3 high)
 *     (8 SENTENCE without WORDS)
 *     (11 PART)
 *
 * Hand 1 has all of that but the NOTE and the TIE; "5 8 7" in 1; and a PART 14 behind 0 with a SENTENCE 15 in it. The
 * STATE 10 is what both have. Hands 2 to 5 have nothing.
 */
final class Houses {
    static final int NEXT = 18;

    static final Replay HOUSE = new Replay(x -> {
        x.put(0, 0, -1, -1, 1);
        x.put(0, 1, 0, -1, 1);
        x.put(0, 1, 0, 1, 1);
        x.put(0, 2, -1, 0, 3);
        x.put(0, 0, 0, 2, 1);
        x.put(0, 1, 4, -1, 1);
        words(x, 0, 1, 5, 6, 7);
        words(x, 0, 5, 5, 6);
        x.put(0, 1, -1, 3, 1);
        x.strike(0, 3);
        x.strike(0, 8);
        x.put(0, 0, -1, 8, 1);
        x.strike(0, 11);
        x.give(0, 1, 60);
        x.keep(0);
        words(x, 1, 1, 5, 8, 7);
        x.put(1, 0, -1, 0, 1);
        x.put(1, 1, 14, -1, 1);
        x.note(0, 1, 2);
        x.tie(0, 1, 5);
        x.rule(1, 0);
        x.rule(0, -1);
        x.yes(0, -1);
        x.fold(8, 9);
        pad(x, 2, 50, 51);
        x.lead(1, 0, 1, 2);
        x.term(1, 5, 50);
        x.edition(0, 0, 20, 10);
        pad(x, 0, 5, 6);
        pad(x, 5, 40);
    });

    /** 59 CHANGES: one more can be made. */
    static final Replay ONE_LEFT = HOUSE.then(x -> strikes(x, NEXT, 59));
    static final Replay CHANGES_FULL = HOUSE.then(x -> strikes(x, NEXT, 60));

    static final Replay PAD_FULL = HOUSE.then(x -> pad(x, 0, 1, 1, 1, 1, 1, 1));

    static final Replay STATES_FULL = HOUSE.then(x -> {
        for (int k = 1; k < 8; k++) x.keep(1);
    });
    static final Replay RULES_FULL = HOUSE.then(x -> {
        for (int k = 2; k < 6; k++) x.rule(2, -1);
    });
    static final Replay YESES_FULL = HOUSE.then(x -> {
        for (int k = 1; k < 20; k++) x.yes(2, -1);
    });
    static final Replay FOLDS_FULL = HOUSE.then(x -> {
        for (int k = 1; k < 8; k++) x.fold(20 + k, 30 + k);
    });
    static final Replay PAIRS_FULL = HOUSE.then(x -> {
        for (int k = 1; k < 24; k++) {
            x.word(2, 60 + k);
            x.lead(1, 0, 5, 2);
        }
    });
    static final Replay TERMS_FULL = HOUSE.then(x -> {
        for (int k = 1; k < 6; k++) x.term(2, 70, 71);
    });
    static final Replay EDITIONS_FULL = HOUSE.then(x -> {
        for (int k = 1; k < 6; k++) x.edition(1, 1, 10 + k, 20);
    });

    private Houses() { }

    static void pad(BookHouse x, int hand, int... row) {
        for (int w : row) x.word(hand, w);
    }

    static int words(BookHouse x, int hand, int piece, int... row) {
        pad(x, hand, row);
        return x.words(hand, piece);
    }

    private static void strikes(BookHouse x, int from, int to) {
        for (int k = from; k < to; k++) x.strike(0, 3);
    }
}

/** Runs of calls, the same ones each time, whose answers are those of the Model. */
public final class RandomRunsTest {
    private static final int CALLS = 512;
    private static final String[] NAMES = {"word", "put", "strike", "move", "words", "note", "tie", "back", "give",
        "keep", "firm", "change", "came", "say", "seen", "piece", "at", "seek", "digest", "clash", "settle", "rule",
        "yes", "open", "fold", "lead", "stale", "offer", "pair", "term", "unlike", "edition", "pages", "onPage", "line",
        "index", "reach", "told"};
    // how often each is called, in that order: ..
    // .. while a book is made, by many hands
    private static final int[] MANY = {110, 60, 12, 40, 50, 10, 20, 20, 60, 3, 1, 2, 6, 8, 4, 6, 6, 2, 8, 10, 20, 2,
        5, 4, 2, 8, 2, 2, 1, 2, 2, 1, 1, 2, 1, 1, 4, 1};
    // .. while a long book is made, by one mostly
    private static final int[] LONG = {90, 60, 1, 3, 16, 6, 14, 1, 2, 1, 1, 0, 0, 0, 1, 1, 1, 1, 1, 0, 1, 1,
        1, 1, 1, 3, 1, 0, 0, 1, 0, 0, 0, 0, 0, 0, 0, 0};
    // .. while a few PIECES are moved, struck and told anew by several hands at once
    private static final int[] MOVING = {30, 12, 12, 70, 14, 2, 2, 24, 60, 3, 2, 0, 10, 10, 1, 10, 2, 0, 6, 6, 24, 0,
        0, 0, 1, 0, 0, 0, 0, 0, 0, 1, 0, 0, 0, 0, 1, 0};
    private static final int[][] MAKING = {MANY, LONG, MOVING, MANY};
    private static final int[] MAKING_CALLS = {350, 220, 260, 350};
    // HANDS lose CHANGES of others, so that what needs these WAITS
    private static final int GAPS = 3;
    // .. when it is asked about
    private static final int[] ASKED = {30, 6, 4, 8, 10, 3, 5, 8, 16, 2, 1, 4, 6, 6, 5, 12, 10, 10, 6, 10, 8, 2, 5, 8, 2,
        6, 6, 8, 4, 2, 6, 4, 10, 12, 12, 10, 14, 2};

    private long seed;
    private final int range;
    private final int hands;
    private final int style;
    private final boolean isLong;

    private RandomRunsTest(long seed, int style) {
        this.seed = seed;
        this.style = style;
        this.isLong = MAKING[style] == LONG;
        // the first numbers of near seeds are near each other
        for (int i = 0; i < 5; i++) upTo(10);
        range = 3 + upTo(14);
        hands = isLong ? 2 : 2 + upTo(3);
    }

    private int upTo(int bound) {
        seed = seed * 6364136223846793005L + 1442695040888963407L;
        return (int) ((seed >>> 33) % bound);
    }

    private boolean oneIn(int n) {
        return upTo(n) == 0;
    }

    private int wild() {
        int[] odd = {-7, -6, -5, -3, -2, -1, 0, 7, 8, 9, 18, 60, 61, 99, 100, 1000, Integer.MAX_VALUE,
            Integer.MIN_VALUE, 63, 64, 65, 128};
        return odd[upTo(odd.length)];
    }

    private int usually(int n) {
        return oneIn(80) ? wild() : n;
    }

    private int hand() {
        if (isLong && !oneIn(12)) return 0;
        return oneIn(30) ? usually(upTo(6)) : upTo(hands);
    }

    private int source(Model m) {
        int states = m.told(1);
        return usually(states > 0 && oneIn(3) ? 10 + upTo(states) : hand());
    }

    private int anyChange(Model m) {
        return usually(upTo(m.told(0) + 1));
    }

    private int latestChange(Model m) {
        return usually(Math.max(0, m.told(0) - 1 - upTo(12)));
    }

    /** Mostly a PIECE of the SORT, or of any (-1), that is THERE in a SOURCE. */
    private int piece(Model m, int source, int sort) {
        for (int tries = 0; tries < 40; tries++) {
            int c = upTo(m.told(0) + 1);
            if (sort >= 0 && m.change(c, 6) != sort) continue;
            if (m.piece(source, c, 0) == 1) return usually(c);
        }
        return usually(-1);
    }

    private int sentence(Model m, int source) {
        return piece(m, source, oneIn(30) ? -1 : 1);
    }

    private int partOrBook(Model m, int source) {
        return oneIn(3) ? -1 : piece(m, source, oneIn(30) ? -1 : 0);
    }

    private int pieceOrNone(Model m, int source) {
        return oneIn(5) ? -1 : piece(m, source, -1);
    }

    private int pieceOfEdition(Model m, int edition, int sort) {
        for (int tries = 0; tries < 40; tries++) {
            int c = upTo(m.told(0) + 1);
            if ((sort < 0 || m.change(c, 6) == sort) && m.onPage(edition, c, 0) > 0) return usually(c);
        }
        return usually(upTo(4));
    }

    private int aWord() {
        return usually(oneIn(20) ? 1 + upTo(99) : 1 + upTo(range));
    }

    private int aTongue() {
        return usually(1 + upTo(oneIn(3) ? 2 : 1));
    }

    private int ith() {
        return usually(upTo(5) - 1);
    }

    private int edition(Model m) {
        return usually(upTo(m.told(7) + (m.told(7) == 0 || oneIn(20) ? 1 : 0)));
    }

    private int[] arguments(int call, Model m) {
        int h = hand();
        int s = source(m);
        int e = edition(m);
        switch (call) {
            case 0: return new int[] {h, aWord()};
            case 1: return new int[] {h, usually(upTo(isLong ? 3 : 4) == 0 ? 2 : upTo(2)), partOrBook(m, h),
                pieceOrNone(m, h), usually(isLong ? 6 + upTo(4) : 1 + upTo(9))};
            case 2: return new int[] {h, piece(m, h, -1)};
            case 3: return new int[] {h, piece(m, h, oneIn(2) ? 0 : -1), partOrBook(m, h), pieceOrNone(m, h)};
            case 4: return new int[] {h, sentence(m, h)};
            case 5: return new int[] {h, sentence(m, h), usually(upTo(4))};
            case 6: return new int[] {h, sentence(m, h), pieceOrNone(m, h)};
            case 7: return new int[] {h, oneIn(3) ? anyChange(m) : latestChange(m)};
            case 8: return new int[] {hand(), upTo(hands), usually(oneIn(2) ? 60 : 1 + upTo(9))};
            case 9: return new int[] {h};
            case 10: return new int[] {usually(upTo(2))};
            case 11: return new int[] {anyChange(m), usually(upTo(8))};
            case 12: case 13: return new int[] {s, anyChange(m)};
            case 14: return new int[] {s, ith()};
            case 15: return new int[] {s, oneIn(9) ? anyChange(m) : piece(m, s, -1), usually(upTo(10))};
            case 16: return new int[] {s, sentence(m, s), usually(upTo(5)), usually(upTo(2))};
            case 17: return new int[] {s, h, ith()};
            case 18: case 23: return new int[] {s};
            case 19: return new int[] {s, source(m), ith()};
            case 20: return new int[] {h, piece(m, s, oneIn(2) ? 1 : -1), usually(upTo(5)), s};
            case 21: return new int[] {h, oneIn(9) ? anyChange(m) : pieceOrNone(m, h)};
            case 22: return new int[] {h, pieceOrNone(m, h)};
            case 24: return new int[] {aWord(), aWord()};
            case 25: return new int[] {aTongue(), s, sentence(m, s), h};
            case 26: case 30: return new int[] {aTongue(), s, ith()};
            case 27: return new int[] {aTongue(), s, sentence(m, s), usually(upTo(4))};
            case 28: return new int[] {usually(upTo(m.told(5) + 1)), usually(upTo(2)), ith()};
            case 29: return new int[] {aTongue(), aWord(), aWord()};
            case 31: return new int[] {s, usually(upTo(3)), usually(10 + (oneIn(4) ? upTo(51) : upTo(8))),
                usually(10 + upTo(oneIn(3) ? 11 : 3))};
            case 32: return new int[] {e, usually(upTo(6))};
            case 33: return new int[] {e, pieceOfEdition(m, e, oneIn(2) ? 1 : -1), usually(upTo(4))};
            case 34: return new int[] {e, pieceOfEdition(m, e, 1), ith()};
            case 35: return new int[] {e, aWord(), ith()};
            case 36: return new int[] {e, s, usually(upTo(5))};
            default: return new int[] {usually(upTo(26))};
        }
    }

    private static long ofHouse(BookHouse x, int call, int[] a) {
        switch (call) {
            case 0: return x.word(a[0], a[1]);
            case 1: return x.put(a[0], a[1], a[2], a[3], a[4]);
            case 2: return x.strike(a[0], a[1]);
            case 3: return x.move(a[0], a[1], a[2], a[3]);
            case 4: return x.words(a[0], a[1]);
            case 5: return x.note(a[0], a[1], a[2]);
            case 6: return x.tie(a[0], a[1], a[2]);
            case 7: return x.back(a[0], a[1]);
            case 8: return x.give(a[0], a[1], a[2]);
            case 9: return x.keep(a[0]);
            case 10: return x.firm(a[0]);
            case 11: return x.change(a[0], a[1]);
            case 12: return x.came(a[0], a[1]);
            case 13: return x.say(a[0], a[1]);
            case 14: return x.seen(a[0], a[1]);
            case 15: return x.piece(a[0], a[1], a[2]);
            case 16: return x.at(a[0], a[1], a[2], a[3]);
            case 17: return x.seek(a[0], a[1], a[2]);
            case 18: return x.digest(a[0]);
            case 19: return x.clash(a[0], a[1], a[2]);
            case 20: return x.settle(a[0], a[1], a[2], a[3]);
            case 21: return x.rule(a[0], a[1]);
            case 22: return x.yes(a[0], a[1]);
            case 23: return x.open(a[0]);
            case 24: return x.fold(a[0], a[1]);
            case 25: return x.lead(a[0], a[1], a[2], a[3]);
            case 26: return x.stale(a[0], a[1], a[2]);
            case 27: return x.offer(a[0], a[1], a[2], a[3]);
            case 28: return x.pair(a[0], a[1], a[2]);
            case 29: return x.term(a[0], a[1], a[2]);
            case 30: return x.unlike(a[0], a[1], a[2]);
            case 31: return x.edition(a[0], a[1], a[2], a[3]);
            case 32: return x.pages(a[0], a[1]);
            case 33: return x.onPage(a[0], a[1], a[2]);
            case 34: return x.line(a[0], a[1], a[2]);
            case 35: return x.index(a[0], a[1], a[2]);
            case 36: return x.reach(a[0], a[1], a[2]);
            default: return x.told(a[0]);
        }
    }

    private static long ofModel(Model x, int call, int[] a) {
        switch (call) {
            case 0: return x.word(a[0], a[1]);
            case 1: return x.put(a[0], a[1], a[2], a[3], a[4]);
            case 2: return x.strike(a[0], a[1]);
            case 3: return x.move(a[0], a[1], a[2], a[3]);
            case 4: return x.words(a[0], a[1]);
            case 5: return x.note(a[0], a[1], a[2]);
            case 6: return x.tie(a[0], a[1], a[2]);
            case 7: return x.back(a[0], a[1]);
            case 8: return x.give(a[0], a[1], a[2]);
            case 9: return x.keep(a[0]);
            case 10: return x.firm(a[0]);
            case 11: return x.change(a[0], a[1]);
            case 12: return x.came(a[0], a[1]);
            case 13: return x.say(a[0], a[1]);
            case 14: return x.seen(a[0], a[1]);
            case 15: return x.piece(a[0], a[1], a[2]);
            case 16: return x.at(a[0], a[1], a[2], a[3]);
            case 17: return x.seek(a[0], a[1], a[2]);
            case 18: return x.digest(a[0]);
            case 19: return x.clash(a[0], a[1], a[2]);
            case 20: return x.settle(a[0], a[1], a[2], a[3]);
            case 21: return x.rule(a[0], a[1]);
            case 22: return x.yes(a[0], a[1]);
            case 23: return x.open(a[0]);
            case 24: return x.fold(a[0], a[1]);
            case 25: return x.lead(a[0], a[1], a[2], a[3]);
            case 26: return x.stale(a[0], a[1], a[2]);
            case 27: return x.offer(a[0], a[1], a[2], a[3]);
            case 28: return x.pair(a[0], a[1], a[2]);
            case 29: return x.term(a[0], a[1], a[2]);
            case 30: return x.unlike(a[0], a[1], a[2]);
            case 31: return x.edition(a[0], a[1], a[2], a[3]);
            case 32: return x.pages(a[0], a[1]);
            case 33: return x.onPage(a[0], a[1], a[2]);
            case 34: return x.line(a[0], a[1], a[2]);
            case 35: return x.index(a[0], a[1], a[2]);
            case 36: return x.reach(a[0], a[1], a[2]);
            default: return x.told(a[0]);
        }
    }

    private int aCall(int[] weights) {
        int sum = 0;
        for (int w : weights) sum += w;
        int at = upTo(sum);
        int call = 0;
        while (at >= weights[call]) at -= weights[call++];
        return call;
    }

    private void takeAway(BookHouse house, Model model) {
        int hand = upTo(hands);
        int change = upTo(model.told(0) + 1);
        // its own it keeps, or two of its CHANGES could have the same STAMP
        if (model.change(change, 1) == hand || model.told(0) == change) return;
        Gaps.takeAway(house, hand, change);
        model.takeAway(hand, change);
    }

    private boolean isAlike(long run) {
        BookHouse house = new BookHouse();
        Model model = new Model();
        StringBuilder calls = new StringBuilder();
        for (int k = 0; k < CALLS; k++) {
            int call = aCall(k < MAKING_CALLS[style] ? MAKING[style] : ASKED);
            int[] a = arguments(call, model);
            if (style == GAPS && oneIn(12)) takeAway(house, model);
            String text = NAMES[call] + java.util.Arrays.toString(a);
            long want = ofModel(model, call, a);
            long got = ofHouse(house, call, a);
            calls.append("    ").append(text).append(" = ").append(got).append('\n');
            if (got == want) continue;
            System.out.println("  run " + run + ", call " + k + ": " + text + " answered " + got + ", due is " + want);
            if (System.getProperty("whole") != null) System.out.print(calls);
            return false;
        }
        return true;
    }

    private static void runs(String name, int style, int count) {
        Check.that(name, c -> {
            for (int run = 0; run < count; run++) c.due(new RandomRunsTest(run, style).isAlike(run));
        });
    }

    public static void main(String[] args) {
        int count = args.length > 0 ? Integer.parseInt(args[0]) : 300;
        runs("runs of calls on books of many hands answer as the model does", 0, count);
        runs("runs of calls on long books answer as the model does", 1, count);
        runs("runs of calls that move a few pieces answer as the model does", 2, count);
        runs("runs of calls on sets with gaps answer as the model does", GAPS, count);
        Check.end();
    }
}

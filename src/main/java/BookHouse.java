/** A house in which many hands make books, as the document of BookHouse tells it. */
public final class BookHouse {
    public static final int UNKNOWN = -1, OUTSIDE = -2, STATE = -3, FULL = -4, NO = -5, NONE = -6;
    public static final int LOST = -100;

    private static final int HANDS = 6, CHANGES = 60, FIRST_STATE = 10, STATES = 8;
    private static final int MOST_WORD = 99, ROW = 8, HIGHEST = 9, MOST_NOTE = 3;
    private static final int RULES = 6, YESES = 20, FOLDS = 8, PAIRS = 24, TERMS = 6, EDITIONS = 6;
    // SENTENCES with WORDS take two CHANGES each.
    private static final int ALL_WORDS = CHANGES / 2 * ROW;
    private static final int LINES = ROW + 1, ROUNDS = 10;
    private static final int TONGUES = 2, OWN_TONGUE = 0;
    private static final int NARROWEST = 10, WIDEST = 60, LOWEST = 10, TALLEST = 20;

    private static final int BOOK = -1, FIRST = -1, NO_TIE = -1, NOBODY = -1;
    private static final int PUT = 0, STRIKE = 1, MOVE = 2, WORDS = 3, NOTE = 4, TIE = 5, RAISE = 6;
    private static final int PART = 0, SENTENCE = 1, PICTURE = 2;
    private static final int CAME = 0, WAITS = 1, LOSES = 2;
    private static final int PLACE = 0, STRUCK = 4;
    // KINDS 0 to 3 of a CLASH are those of MOVE, WORDS, NOTE and TIE, in this order.
    private static final int CLASH_TO_CHANGE = MOVE - PLACE;
    private static final int HOW_MANY = -1;

    private final Log log = new Log();
    private final long[] has = new long[HANDS];
    private final Row[] pads = new Row[HANDS];
    private final long[] states = new long[STATES];
    private int stateCount;
    private int firmness;
    private final Folds folds = new Folds();
    private final Consent consent = new Consent(folds);
    private final Tongues tongues = new Tongues(log, folds);
    private final Shelf shelf = new Shelf();
    private final Book book = new Book(log);
    private final Book other = new Book(log);
    private final Setting setting = new Setting(log, tongues, book);
    private final Setting otherwise = new Setting(log, tongues, other);

    public BookHouse() {
        for (int hand = 0; hand < HANDS; hand++) {
            pads[hand] = new Row(ROW);
        }
    }

    // ---- 1 changes

    public int word(int hand, int w) {
        if (!isHand(hand)) return UNKNOWN;
        if (!isWord(w)) return OUTSIDE;
        if (pads[hand].isFull()) return FULL;
        pads[hand].add(w);
        return pads[hand].count;
    }

    public int put(int hand, int sort, int under, int behind, int high) {
        if (!isHand(hand)) return UNKNOWN;
        if (sort < PART || sort > PICTURE) return OUTSIDE;
        if (sort == PICTURE && (high < 1 || high > HIGHEST)) return OUTSIDE;
        if (log.isFull()) return FULL;
        Book mine = bookOf(hand);
        if (!mine.isPlace(under) || !mine.isToStandBehind(behind)) return NO;
        int c = make(hand, PUT, log.made, under, behind);
        log.sort[c] = sort;
        log.high[c] = sort == PICTURE ? high : 0;
        return c;
    }

    public int strike(int hand, int piece) {
        if (!isHand(hand)) return UNKNOWN;
        if (log.isFull()) return FULL;
        if (!bookOf(hand).isThere(piece)) return NO;
        return make(hand, STRIKE, piece, NONE, NONE);
    }

    public int move(int hand, int piece, int under, int behind) {
        if (!isHand(hand)) return UNKNOWN;
        if (log.isFull()) return FULL;
        Book mine = bookOf(hand);
        if (!mine.isThere(piece) || !mine.isPlace(under) || mine.isWithin(under, piece)) return NO;
        if (behind == piece || !mine.isToStandBehind(behind)) return NO;
        return make(hand, MOVE, piece, under, behind);
    }

    public int words(int hand, int piece) {
        if (!isHand(hand)) return UNKNOWN;
        if (log.isFull()) return FULL;
        if (!bookOf(hand).isSentence(piece)) return NO;
        int c = makeWords(hand, piece, pads[hand]);
        pads[hand].clear();
        return c;
    }

    public int note(int hand, int piece, int lines) {
        if (!isHand(hand)) return UNKNOWN;
        if (lines < 0 || lines > MOST_NOTE) return OUTSIDE;
        if (log.isFull()) return FULL;
        if (!bookOf(hand).isSentence(piece)) return NO;
        return make(hand, NOTE, piece, lines, NONE);
    }

    public int tie(int hand, int piece, int to) {
        if (!isHand(hand)) return UNKNOWN;
        if (log.isFull()) return FULL;
        Book mine = bookOf(hand);
        if (!mine.isSentence(piece)) return NO;
        if (to != NO_TIE && !mine.isThere(to)) return NO;
        return make(hand, TIE, piece, to, NONE);
    }

    public int back(int hand, int change) {
        if (!isHand(hand) || !holds(has[hand], change)) return UNKNOWN;
        if (log.isFull()) return FULL;
        if (!bookOf(hand).hasSay(change)) return NO;
        int piece = log.piece[change];
        int kind = log.kind[change];
        if (kind == PUT) return make(hand, STRIKE, piece, NONE, NONE);
        if (kind == STRIKE) return make(hand, RAISE, piece, NONE, NONE);
        other.work(log.aheadOf(change, has[hand]), firmness);
        return makeAsIn(other, hand, kind, piece);
    }

    public int give(int from, int to, int n) {
        if (!isHand(from) || !isHand(to)) return UNKNOWN;
        if (n < 1 || n > CHANGES) return OUTSIDE;
        long wanted = has[from] & ~has[to];
        int given = 0;
        for (int k = 0; k < log.made && given < n; k++) {
            int c = log.order[k];
            if (holds(wanted, c)) {
                has[to] |= bit(c);
                given++;
            }
        }
        return given;
    }

    public int keep(int hand) {
        if (!isHand(hand)) return UNKNOWN;
        if (stateCount >= STATES) return FULL;
        states[stateCount] = has[hand];
        stateCount++;
        return FIRST_STATE + stateCount - 1;
    }

    public int firm(int v) {
        if (v != 0 && v != 1) return OUTSIDE;
        int was = firmness;
        firmness = v;
        return was;
    }

    public int change(int i, int what) {
        if (!isChange(i)) return LOST + UNKNOWN;
        switch (what) {
            case 0: return log.kind[i];
            case 1: return log.hand[i];
            case 2: return log.stamp[i];
            case 3: return log.piece[i];
            case 4: return log.target[i];
            case 5: return log.behind[i];
            case 6: return log.sort[i];
            case 7: return log.high[i];
            default: return LOST + OUTSIDE;
        }
    }

    public int came(int source, int change) {
        if (!isSource(source) || !isChange(change)) return UNKNOWN;
        return bookOf(source).came[change];
    }

    public int say(int source, int change) {
        if (!isSource(source) || !isChange(change)) return UNKNOWN;
        return asBit(bookOf(source).hasSay(change));
    }

    // ---- 2 books

    public int seen(int source, int i) {
        if (!isSource(source)) return UNKNOWN;
        Book its = bookOf(source);
        if (i == HOW_MANY) return its.readCount;
        return i >= 0 && i < its.readCount ? its.read[i] : NONE;
    }

    public int piece(int source, int piece, int what) {
        if (!isSource(source) || !isPiece(piece)) return LOST + UNKNOWN;
        if (what < 0 || what > 9) return LOST + OUTSIDE;
        Book its = bookOf(source);
        if (what == 0) return asBit(its.isThere(piece));
        if (!its.isThere(piece)) return LOST + STATE;
        switch (what) {
            case 1: return asBit(its.isStruck(piece));
            case 2: return asBit(its.isSeen(piece));
            case 3: return its.under[piece];
            case 4: return its.ahead[piece];
            case 5: return its.rightIn(piece);
            case 6: return its.wordsOf(piece).count;
            case 7: return its.note[piece];
            case 8: return its.tie[piece];
            default: return its.partsAround(piece);
        }
    }

    public int at(int source, int piece, int i, int what) {
        if (!isSource(source) || !isPiece(piece)) return LOST + UNKNOWN;
        Book its = bookOf(source);
        Row row = its.wordsOf(piece);
        if (i < 0 || i >= row.count) return LOST + UNKNOWN;
        if (what != 0 && what != 1) return LOST + OUTSIDE;
        return what == 0 ? row.word[i] : its.who[piece * ROW + i];
    }

    public int seek(int source, int hand, int i) {
        if (!isSource(source) || !isHand(hand)) return UNKNOWN;
        Row wanted = pads[hand];
        if (wanted.count == 0) return STATE;
        Book its = bookOf(source);
        int found = 0;
        for (int k = 0; k < its.readCount; k++) {
            int p = its.read[k];
            Row row = its.wordsOf(p);
            for (int from = 0; from + wanted.count <= row.count; from++) {
                if (!folds.standsAt(wanted, row, from)) continue;
                if (found == i) return 10 * p + from;
                found++;
            }
        }
        return i == HOW_MANY ? found : NONE;
    }

    public long digest(int source) {
        if (!isSource(source)) return LOST + UNKNOWN;
        Book its = bookOf(source);
        long h = 251;
        for (int k = 0; k < its.readCount; k++) {
            int p = its.read[k];
            h = 31 * h + p;
            h = 31 * h + its.partsAround(p);
            Row row = its.wordsOf(p);
            for (int i = 0; i < row.count; i++) {
                h = 31 * h + row.word[i];
            }
        }
        return h;
    }

    // ---- 3 clashes

    public int clash(int a, int b, int i) {
        if (!isSource(a) || !isSource(b)) return UNKNOWN;
        long onlyA = setOf(a) & ~setOf(b);
        long onlyB = setOf(b) & ~setOf(a);
        int found = 0;
        for (int p = 0; p < log.made; p++) {
            int kindsA = log.kindsUpon(p, onlyA);
            int kindsB = log.kindsUpon(p, onlyB);
            for (int kind = PLACE; kind <= STRUCK; kind++) {
                if (!isClash(kind, kindsA, kindsB)) continue;
                if (found == i) return 10 * p + kind;
                found++;
            }
        }
        return i == HOW_MANY ? found : NONE;
    }

    public int settle(int hand, int piece, int kind, int source) {
        if (!isHand(hand) || !isSource(source)) return UNKNOWN;
        if (kind < PLACE || kind > STRUCK) return OUTSIDE;
        if (log.isFull()) return FULL;
        Book mine = bookOf(hand);
        other.work(setOf(source), firmness);
        if (!mine.isThere(piece) || !other.isThere(piece)) return NO;
        if (kind == STRUCK) return make(hand, other.isStruck(piece) ? STRIKE : RAISE, piece, NONE, NONE);
        if (kind == PLACE) {
            int under = other.under[piece];
            if (!mine.isPlace(under) || mine.isWithin(under, piece)) return NO;
        } else if (!mine.isSentence(piece)) {
            return NO;
        }
        return makeAsIn(other, hand, kind + CLASH_TO_CHANGE, piece);
    }

    // ---- 4 yes

    public int rule(int hand, int piece) {
        if (!isHand(hand) || (piece != BOOK && !isPiece(piece))) return UNKNOWN;
        if (consent.rules >= RULES) return FULL;
        consent.addRule(hand, piece);
        return consent.rules;
    }

    public int yes(int hand, int piece) {
        if (!isHand(hand)) return UNKNOWN;
        if (consent.yeses >= YESES) return FULL;
        Book mine = bookOf(hand);
        if (piece != BOOK && !mine.isSeen(piece)) return NO;
        consent.addYes(hand, piece, mine);
        return consent.yeses;
    }

    public int open(int source) {
        if (!isSource(source)) return UNKNOWN;
        return consent.unmet(bookOf(source));
    }

    public int fold(int a, int b) {
        if (!isWord(a) || !isWord(b) || a == b) return OUTSIDE;
        if (folds.count >= FOLDS) return FULL;
        folds.join(a, b);
        return folds.count;
    }

    // ---- 5 tongues

    public int lead(int tongue, int source, int piece, int hand) {
        if (!isTongue(tongue) || !isSource(source) || !isHand(hand)) return UNKNOWN;
        if (tongues.pairs >= PAIRS) return FULL;
        Book its = bookOf(source);
        if (!its.isSentence(piece) || its.wordsOf(piece).count == 0 || pads[hand].count == 0) return NO;
        tongues.addPair(tongue, piece, its.spoken[piece], pads[hand]);
        pads[hand].clear();
        return tongues.pairs - 1;
    }

    public int stale(int tongue, int source, int i) {
        if (!isTongue(tongue) || !isSource(source)) return UNKNOWN;
        Book its = bookOf(source);
        int found = 0;
        for (int k = 0; k < its.readCount; k++) {
            if (!tongues.isStale(tongue, its.read[k], its)) continue;
            if (found == i) return its.read[k];
            found++;
        }
        return i == HOW_MANY ? found : NONE;
    }

    public int offer(int tongue, int source, int piece, int what) {
        if (!isTongue(tongue) || !isSource(source)) return UNKNOWN;
        Book its = bookOf(source);
        if (!its.isSentence(piece)) return UNKNOWN;
        if (what < 0 || what > 3) return OUTSIDE;
        Row row = its.wordsOf(piece);
        int k = tongues.nearest(tongue, row);
        if (k < 0) return NONE;
        switch (what) {
            case 0: return k;
            case 1: return folds.costOf(tongues.bookSide(k), row);
            case 2: return tongues.piece[k];
            default: return tongues.led[k].count;
        }
    }

    public int pair(int k, int side, int i) {
        if (k < 0 || k >= tongues.pairs) return UNKNOWN;
        if (side != 0 && side != 1) return OUTSIDE;
        Row row = side == 0 ? tongues.bookSide(k) : tongues.led[k];
        return i >= 0 && i < row.count ? row.word[i] : NONE;
    }

    public int term(int tongue, int w, int v) {
        if (!isTongue(tongue)) return UNKNOWN;
        if (!isWord(w) || !isWord(v)) return OUTSIDE;
        if (tongues.terms >= TERMS) return FULL;
        tongues.addTerm(tongue, w, v);
        return tongues.terms;
    }

    public int unlike(int tongue, int source, int i) {
        if (!isTongue(tongue) || !isSource(source)) return UNKNOWN;
        Book its = bookOf(source);
        int found = 0;
        for (int k = 0; k < its.readCount; k++) {
            if (!tongues.isUnlike(tongue, its.read[k], its)) continue;
            if (found == i) return its.read[k];
            found++;
        }
        return i == HOW_MANY ? found : NONE;
    }

    // ---- 6 editions

    public int edition(int source, int tongue, int w, int h) {
        if (!isSource(source) || (tongue != OWN_TONGUE && !isTongue(tongue))) return UNKNOWN;
        if (w < NARROWEST || w > WIDEST || h < LOWEST || h > TALLEST) return OUTSIDE;
        if (shelf.count >= EDITIONS) return FULL;
        shelf.add(setOf(source), tongue, w, h);
        return shelf.count - 1;
    }

    public int pages(int edition, int what) {
        if (!isEdition(edition)) return UNKNOWN;
        if (what < 0 || what > 5) return OUTSIDE;
        setEdition(edition);
        switch (what) {
            case 0: return setting.paper.pagesInAll();
            case 1: return setting.rounds;
            case 2: return asBit(setting.goesRound);
            case 3: return setting.allLines;
            case 4: return setting.squares;
            default: return setting.paper.linesLeft;
        }
    }

    public int onPage(int edition, int piece, int what) {
        if (!isEdition(edition)) return UNKNOWN;
        setEdition(edition);
        if (!book.isSeen(piece)) return UNKNOWN;
        switch (what) {
            case 0: return setting.page[piece];
            case 1: return setting.linesOf(piece);
            case 2: return setting.lastPageOf(piece);
            case 3: return setting.numberOf(piece);
            default: return OUTSIDE;
        }
    }

    public int line(int edition, int piece, int i) {
        if (!isEdition(edition)) return UNKNOWN;
        setEdition(edition);
        if (!book.isSeen(piece)) return UNKNOWN;
        return setting.wordsInLine(piece, i);
    }

    public int index(int edition, int w, int i) {
        if (!isEdition(edition)) return UNKNOWN;
        if (!isWord(w)) return OUTSIDE;
        setEdition(edition);
        int found = 0;
        int latest = 0;
        for (int k = 0; k < book.readCount; k++) {
            int p = book.read[k];
            for (int l = 0; l < setting.lineCount[p]; l++) {
                int page = setting.linePage[p * LINES + l];
                if (page == latest || !setting.isSaidInLine(w, p, l)) continue;
                if (found == i) return page;
                found++;
                latest = page;
            }
        }
        return i == HOW_MANY ? found : NONE;
    }

    public int reach(int edition, int source, int what) {
        if (!isEdition(edition) || !isSource(source)) return UNKNOWN;
        if (what < 0 || what > 4) return OUTSIDE;
        setEdition(edition);
        if (what == 4) {
            int unmetHere = consent.unmet(book);
            return Integer.bitCount(consent.unmet(bookOf(source)) & ~unmetHere);
        }
        otherwise.make(setOf(source), firmness, shelf, edition);
        switch (what) {
            case 0: return countElsewhere();
            case 1: return countSaidOtherwise();
            case 2: return countOtherNumbers();
            default: return firstPageElsewhere();
        }
    }

    public int told(int what) {
        if (what >= 10 && what < 10 + HANDS) return Long.bitCount(has[what - 10]);
        if (what >= 20 && what < 20 + HANDS) return pads[what - 20].count;
        switch (what) {
            case 0: return log.made;
            case 1: return stateCount;
            case 2: return consent.rules;
            case 3: return consent.yeses;
            case 4: return folds.count;
            case 5: return tongues.pairs;
            case 6: return tongues.terms;
            case 7: return shelf.count;
            case 8: return firmness;
            default: return OUTSIDE;
        }
    }

    // ---- what a call asks of its numbers

    private static boolean isHand(int hand) {
        return hand >= 0 && hand < HANDS;
    }

    private static boolean isWord(int w) {
        return w >= 1 && w <= MOST_WORD;
    }

    private static boolean isTongue(int tongue) {
        return tongue >= 1 && tongue <= TONGUES;
    }

    private boolean isSource(int source) {
        return isHand(source) || (source >= FIRST_STATE && source < FIRST_STATE + stateCount);
    }

    private boolean isChange(int c) {
        return c >= 0 && c < log.made;
    }

    private boolean isPiece(int p) {
        return isChange(p) && log.kind[p] == PUT;
    }

    private boolean isEdition(int e) {
        return e >= 0 && e < shelf.count;
    }

    private static int asBit(boolean b) {
        return b ? 1 : 0;
    }

    // ---- sets of CHANGES, as bits

    private static long bit(int c) {
        return 1L << c;
    }

    private static boolean holds(long set, int c) {
        return c >= 0 && c < CHANGES && (set >>> c & 1) != 0;
    }

    private long setOf(int source) {
        return source < HANDS ? has[source] : states[source - FIRST_STATE];
    }

    private Book bookOf(int source) {
        book.work(setOf(source), firmness);
        return book;
    }

    // ---- making CHANGES; who calls has looked whether there is room

    private int make(int hand, int kind, int piece, int target, int behind) {
        int c = log.add(hand, kind, has[hand]);
        log.piece[c] = piece;
        log.target[c] = target;
        log.behind[c] = behind;
        has[hand] |= bit(c);
        return c;
    }

    private int makeWords(int hand, int piece, Row row) {
        int c = make(hand, WORDS, piece, row.count, NONE);
        log.words[c].copy(row);
        return c;
    }

    /** A MOVE, WORDS, a NOTE or a TIE that makes the PIECE as it is in a BOOK. */
    private int makeAsIn(Book model, int hand, int kind, int piece) {
        switch (kind) {
            case MOVE: return make(hand, MOVE, piece, model.under[piece], model.ahead[piece]);
            case WORDS: return makeWords(hand, piece, model.wordsOf(piece));
            case NOTE: return make(hand, NOTE, piece, model.note[piece], NONE);
            default: return make(hand, TIE, piece, model.tie[piece], NONE);
        }
    }

    private static boolean isClash(int kind, int kindsA, int kindsB) {
        if (kind == STRUCK) return isStruckAndUsed(kindsA, kindsB) || isStruckAndUsed(kindsB, kindsA);
        return (kindsA & kindsB & 1 << kind + CLASH_TO_CHANGE) != 0;
    }

    private static boolean isStruckAndUsed(int kindsOne, int kindsOther) {
        return (kindsOne & 1 << STRIKE) != 0 && (kindsOther & (1 << MOVE | 1 << WORDS)) != 0;
    }

    // ---- an EDITION beside what it would be of another SOURCE

    private void setEdition(int edition) {
        setting.make(shelf.set[edition], firmness, shelf, edition);
    }

    private boolean isSeenInBoth(int p) {
        return book.isSeen(p) && other.isSeen(p);
    }

    private boolean isElsewhere(int p) {
        if (isSeenInBoth(p)) return setting.page[p] != otherwise.page[p];
        return book.isSeen(p) || other.isSeen(p);
    }

    private int countElsewhere() {
        int count = 0;
        for (int p = 0; p < log.made; p++) {
            if (isElsewhere(p)) count++;
        }
        return count;
    }

    private int countSaidOtherwise() {
        int count = 0;
        for (int p = 0; p < log.made; p++) {
            if (isSeenInBoth(p) && !setting.said[p].isSameAs(otherwise.said[p])) count++;
        }
        return count;
    }

    private int countOtherNumbers() {
        int count = 0;
        for (int p = 0; p < log.made; p++) {
            if (isSeenInBoth(p) && setting.numberOf(p) != otherwise.numberOf(p)) count++;
        }
        return count;
    }

    private int firstPageElsewhere() {
        for (int k = 0; k < book.readCount; k++) {
            // PIECES are read as the pages run, so the first one found is on the first page
            if (isElsewhere(book.read[k])) return setting.page[book.read[k]];
        }
        return NONE;
    }

    /** A row of WORDS. */
    private static final class Row {
        final int[] word;
        int count;

        Row(int room) {
            word = new int[Math.max(room, 0)];
        }

        boolean isFull() {
            return count >= word.length;
        }

        void add(int w) {
            if (isFull()) return;
            word[count] = w;
            count++;
        }

        void append(Row more) {
            for (int i = 0; i < more.count; i++) {
                add(more.word[i]);
            }
        }

        void copy(Row model) {
            clear();
            append(model);
        }

        void clear() {
            count = 0;
        }

        boolean isSameAs(Row that) {
            return count == that.count && sameFromFirst(that) == count;
        }

        int sameFromFirst(Row that) {
            int most = Math.min(count, that.count);
            int same = 0;
            while (same < most && word[same] == that.word[same]) {
                same++;
            }
            return same;
        }

        /** How many are the same from the last on, but for so many first ones that count already. */
        int sameFromLast(Row that, int counted) {
            int most = Math.min(count, that.count) - counted;
            int same = 0;
            while (same < most && word[count - 1 - same] == that.word[that.count - 1 - same]) {
                same++;
            }
            return same;
        }

        int howOften(int w) {
            int often = 0;
            for (int i = 0; i < count; i++) {
                if (word[i] == w) often++;
            }
            return often;
        }
    }

    /** Which WORDS are alike. */
    private static final class Folds {
        private static final int CHANGING = 2;
        // of each WORD one of those that are alike, the same one for all of them
        final int[] kin = new int[MOST_WORD + 1];
        final int[] cost = new int[ROW + 1];
        int count;

        Folds() {
            for (int w = 0; w <= MOST_WORD; w++) {
                kin[w] = w;
            }
        }

        void join(int a, int b) {
            int gone = kin[b];
            for (int w = 0; w <= MOST_WORD; w++) {
                if (kin[w] == gone) kin[w] = kin[a];
            }
            count++;
        }

        boolean areRowsAlike(Row a, Row b) {
            return a.count == b.count && standsAt(a, b, 0);
        }

        boolean standsAt(Row part, Row whole, int from) {
            if (from < 0 || from + part.count > whole.count) return false;
            for (int i = 0; i < part.count; i++) {
                if (kin[part.word[i]] != kin[whole.word[from + i]]) return false;
            }
            return true;
        }

        /** COST of two rows, neither longer than a SENTENCE; one line of the usual table is kept. */
        int costOf(Row from, Row to) {
            for (int j = 0; j <= to.count; j++) {
                cost[j] = j;
            }
            for (int i = 0; i < from.count; i++) {
                int slanting = cost[0];
                cost[0] = i + 1;
                for (int j = 0; j < to.count; j++) {
                    int changed = slanting + (kin[from.word[i]] == kin[to.word[j]] ? 0 : CHANGING);
                    slanting = cost[j + 1];
                    cost[j + 1] = Math.min(changed, 1 + Math.min(cost[j], cost[j + 1]));
                }
            }
            return cost[to.count];
        }
    }

    /** All CHANGES that were made. */
    private static final class Log {
        final int[] kind = new int[CHANGES];
        final int[] hand = new int[CHANGES];
        final int[] stamp = new int[CHANGES];
        final int[] piece = new int[CHANGES];
        final int[] target = new int[CHANGES];
        final int[] behind = new int[CHANGES];
        final int[] sort = new int[CHANGES];
        final int[] high = new int[CHANGES];
        final Row[] words = new Row[CHANGES];
        final Row nothing = new Row(0);
        final int[] order = new int[CHANGES];
        int made;

        Log() {
            for (int c = 0; c < CHANGES; c++) {
                words[c] = new Row(ROW);
            }
        }

        boolean isFull() {
            return made >= CHANGES;
        }

        int add(int maker, int itsKind, long hadThen) {
            int c = made;
            hand[c] = maker;
            kind[c] = itsKind;
            stamp[c] = 1 + greatestStamp(hadThen);
            sort[c] = NONE;
            high[c] = NONE;
            fileByStamp(c);
            made++;
            return c;
        }

        private int greatestStamp(long set) {
            int greatest = 0;
            for (int c = 0; c < made; c++) {
                if (holds(set, c)) greatest = Math.max(greatest, stamp[c]);
            }
            return greatest;
        }

        private void fileByStamp(int c) {
            int place = made;
            while (place > 0 && isAhead(c, order[place - 1])) {
                order[place] = order[place - 1];
                place--;
            }
            order[place] = c;
        }

        private boolean isAhead(int c, int d) {
            return stamp[c] < stamp[d] || (stamp[c] == stamp[d] && hand[c] < hand[d]);
        }

        /** Those of a set that are worked ahead of a CHANGE. */
        long aheadOf(int c, long set) {
            long those = 0;
            for (int k = 0; k < made && order[k] != c; k++) {
                those |= set & bit(order[k]);
            }
            return those;
        }

        /** The KINDS, as bits, of those of a set that are upon a PIECE. */
        int kindsUpon(int p, long set) {
            int kinds = 0;
            for (int c = 0; c < made; c++) {
                if (piece[c] == p && holds(set, c)) kinds |= 1 << kind[c];
            }
            return kinds;
        }
    }

    /** THE BOOK of a set of CHANGES. */
    private static final class Book {
        private final Log log;
        private long set;
        private int firm;
        private long there;
        private long struck;
        private long visible;
        final int[] came = new int[CHANGES];
        final int[] under = new int[CHANGES];
        final int[] ahead = new int[CHANGES];
        final int[] next = new int[CHANGES];
        // the first PIECE in the BOOK, and then in each PIECE
        final int[] first = new int[CHANGES + 1];
        final int[] spoken = new int[CHANGES];
        final int[] who = new int[CHANGES * ROW];
        final int[] note = new int[CHANGES];
        final int[] tie = new int[CHANGES];
        final int[] read = new int[CHANGES];
        int readCount;

        Book(Log log) {
            this.log = log;
        }

        void work(long ofSet, int firmNow) {
            set = ofSet;
            firm = firmNow;
            clear();
            for (int k = 0; k < log.made; k++) {
                int c = log.order[k];
                if (!holds(set, c)) continue;
                came[c] = whatComesOf(c);
                if (came[c] == CAME) bringAbout(c);
            }
            readThrough();
        }

        private void clear() {
            there = 0;
            struck = 0;
            first[0] = NOBODY;
            for (int p = 0; p < log.made; p++) {
                came[p] = NONE;
                under[p] = BOOK;
                ahead[p] = NOBODY;
                next[p] = NOBODY;
                first[p + 1] = NOBODY;
                spoken[p] = NOBODY;
                note[p] = 0;
                tie[p] = NO_TIE;
            }
        }

        private int whatComesOf(int c) {
            int kind = log.kind[c];
            int p = log.piece[c];
            int to = kind == PUT || kind == MOVE ? log.target[c] : BOOK;
            if (kind != PUT && !isThere(p)) return WAITS;
            if (to != BOOK && !isThere(to)) return WAITS;
            return kind == MOVE && isWithin(to, p) ? LOSES : CAME;
        }

        private void bringAbout(int c) {
            int p = log.piece[c];
            switch (log.kind[c]) {
                case PUT:
                    there |= bit(p);
                    insert(p, log.target[c], log.behind[c]);
                    break;
                case STRIKE:
                    struck |= bit(p);
                    break;
                case MOVE:
                    takeOut(p);
                    insert(p, log.target[c], log.behind[c]);
                    raiseUnlessFirm(p);
                    break;
                case WORDS:
                    speak(p, c);
                    raiseUnlessFirm(p);
                    break;
                case NOTE:
                    note[p] = log.target[c];
                    break;
                case TIE:
                    tie[p] = log.target[c];
                    break;
                default:
                    struck &= ~bit(p);
                    break;
            }
        }

        private void raiseUnlessFirm(int p) {
            if (firm == 0) struck &= ~bit(p);
        }

        private void takeOut(int p) {
            if (ahead[p] == NOBODY) first[under[p] + 1] = next[p];
            else next[ahead[p]] = next[p];
            if (next[p] != NOBODY) ahead[next[p]] = ahead[p];
        }

        private void insert(int p, int part, int behind) {
            int front = behind;
            if (behind != FIRST && (!holds(there, behind) || under[behind] != part)) front = lastIn(part);
            under[p] = part;
            ahead[p] = front;
            if (front == NOBODY) {
                next[p] = first[part + 1];
                first[part + 1] = p;
            } else {
                next[p] = next[front];
                next[front] = p;
            }
            if (next[p] != NOBODY) ahead[next[p]] = p;
        }

        private int lastIn(int part) {
            int last = NOBODY;
            int p = first[part + 1];
            for (int k = 0; k < CHANGES && p != NOBODY; k++) {
                last = p;
                p = next[p];
            }
            return last;
        }

        private void speak(int p, int c) {
            Row was = wordsOf(p);
            Row now = log.words[c];
            int front = was.sameFromFirst(now);
            int end = was.sameFromLast(now, front);
            int base = p * ROW;
            System.arraycopy(who, base + was.count - end, who, base + now.count - end, end);
            for (int i = front; i < now.count - end; i++) {
                who[base + i] = c;
            }
            spoken[p] = c;
        }

        private void readThrough() {
            visible = 0;
            readCount = 0;
            int p = first[0];
            for (int k = 0; k < CHANGES && p != NOBODY; k++) {
                boolean seen = !isStruck(p);
                if (seen) {
                    visible |= bit(p);
                    read[readCount] = p;
                    readCount++;
                }
                p = seen && first[p + 1] != NOBODY ? first[p + 1] : nextOutside(p);
            }
        }

        /** What is read behind a PIECE and all that is in it. */
        private int nextOutside(int p) {
            int around = p;
            for (int k = 0; k < CHANGES && around != BOOK; k++) {
                if (next[around] != NOBODY) return next[around];
                around = under[around];
            }
            return NOBODY;
        }

        boolean isThere(int p) {
            return holds(there, p);
        }

        boolean isStruck(int p) {
            return holds(struck, p);
        }

        boolean isSeen(int p) {
            return holds(visible, p);
        }

        boolean isSentence(int p) {
            return isThere(p) && log.sort[p] == SENTENCE;
        }

        boolean isPlace(int part) {
            return part == BOOK || (isThere(part) && log.sort[part] == PART);
        }

        boolean isToStandBehind(int p) {
            return p == FIRST || isThere(p);
        }

        /** Whether a PIECE (or the BOOK) is another one, or in it. */
        boolean isWithin(int p, int whole) {
            int around = p;
            for (int k = 0; k <= CHANGES && around != BOOK; k++) {
                if (around == whole) return true;
                around = under[around];
            }
            return whole == BOOK;
        }

        int partsAround(int p) {
            int parts = 0;
            int around = under[p];
            while (parts < CHANGES && around != BOOK) {
                parts++;
                around = under[around];
            }
            return parts;
        }

        int rightIn(int part) {
            int count = 0;
            int p = first[part + 1];
            while (count < CHANGES && p != NOBODY) {
                count++;
                p = next[p];
            }
            return count;
        }

        Row wordsOf(int p) {
            return spoken[p] == NOBODY ? log.nothing : log.words[spoken[p]];
        }

        /** The WORDS of all SENTENCES that are SEEN in a PIECE. */
        void gather(int whole, Row into) {
            into.clear();
            for (int k = 0; k < readCount; k++) {
                if (isWithin(read[k], whole)) into.append(wordsOf(read[k]));
            }
        }

        boolean hasSay(int c) {
            if (!holds(set, c)) return false;
            int kind = log.kind[c];
            if (kind == PUT) return isThere(c) && !isStruck(c);
            if (kind == RAISE || came[c] != CAME) return false;
            for (int k = log.made - 1; k >= 0; k--) {
                int d = log.order[k];
                if (holds(set, d) && log.piece[d] == log.piece[c] && countsBeside(kind, d)) return d == c;
            }
            return false;
        }

        /** Whether CHANGE d, if it is later, takes the SAY from one of a KIND upon the same PIECE. */
        private boolean countsBeside(int kind, int d) {
            int its = log.kind[d];
            if (kind != STRIKE) return its == kind && came[d] == CAME;
            if (its == STRIKE || its == RAISE) return true;
            return firm == 0 && (its == MOVE || its == WORDS) && came[d] == CAME;
        }
    }

    /** RULES and YESES. */
    private static final class Consent {
        private final Folds folds;
        private final int[] ruleHand = new int[RULES];
        private final int[] rulePiece = new int[RULES];
        int rules;
        private final int[] yesHand = new int[YESES];
        private final int[] yesPiece = new int[YESES];
        private final Row[] covered = new Row[YESES];
        int yeses;
        private final Row heard = new Row(ALL_WORDS);

        Consent(Folds folds) {
            this.folds = folds;
            for (int y = 0; y < YESES; y++) {
                // stands there till a YES comes, so that no reference is null
                covered[y] = heard;
            }
        }

        void addRule(int hand, int piece) {
            if (rules >= RULES) return;
            ruleHand[rules] = hand;
            rulePiece[rules] = piece;
            rules++;
        }

        void addYes(int hand, int piece, Book book) {
            if (yeses >= YESES) return;
            book.gather(piece, heard);
            yesHand[yeses] = hand;
            yesPiece[yeses] = piece;
            covered[yeses] = new Row(heard.count);
            covered[yeses].copy(heard);
            yeses++;
        }

        int unmet(Book book) {
            int bits = 0;
            for (int r = 0; r < rules; r++) {
                if (!isMet(r, book)) bits |= 1 << r;
            }
            return bits;
        }

        private boolean isMet(int r, Book book) {
            int piece = rulePiece[r];
            if (piece != BOOK && !book.isSeen(piece)) return true;
            for (int y = yeses - 1; y >= 0; y--) {
                if (yesHand[y] != ruleHand[r] || !book.isWithin(piece, yesPiece[y])) continue;
                book.gather(yesPiece[y], heard);
                return folds.areRowsAlike(covered[y], heard);
            }
            return false;
        }
    }

    /** PAIRS and TERMS. */
    private static final class Tongues {
        private final Log log;
        private final Folds folds;
        private final int[] tongueOf = new int[PAIRS];
        final int[] piece = new int[PAIRS];
        // the CHANGE with the WORDS of the book: what it says never becomes other
        private final int[] spoken = new int[PAIRS];
        final Row[] led = new Row[PAIRS];
        int pairs;
        private final int[] termTongue = new int[TERMS];
        private final int[] termBook = new int[TERMS];
        private final int[] termLed = new int[TERMS];
        int terms;

        Tongues(Log log, Folds folds) {
            this.log = log;
            this.folds = folds;
            for (int k = 0; k < PAIRS; k++) {
                led[k] = new Row(ROW);
            }
        }

        void addPair(int tongue, int sentence, int change, Row row) {
            if (pairs >= PAIRS) return;
            tongueOf[pairs] = tongue;
            piece[pairs] = sentence;
            spoken[pairs] = change;
            led[pairs].copy(row);
            pairs++;
        }

        void addTerm(int tongue, int w, int v) {
            if (terms >= TERMS) return;
            termTongue[terms] = tongue;
            termBook[terms] = w;
            termLed[terms] = v;
            terms++;
        }

        Row bookSide(int k) {
            return log.words[spoken[k]];
        }

        /** The PAIR that leads a SENTENCE as it is in a BOOK: it has WORDS, is LED and not STALE; or NOBODY. */
        int leading(int tongue, int p, Book book) {
            for (int k = pairs - 1; k >= 0; k--) {
                if (tongueOf[k] != tongue || piece[k] != p) continue;
                return folds.areRowsAlike(bookSide(k), book.wordsOf(p)) ? k : NOBODY;
            }
            return NOBODY;
        }

        boolean isStale(int tongue, int p, Book book) {
            return book.isSeen(p) && book.wordsOf(p).count > 0 && leading(tongue, p, book) == NOBODY;
        }

        boolean isUnlike(int tongue, int p, Book book) {
            int k = book.isSeen(p) ? leading(tongue, p, book) : NOBODY;
            if (k == NOBODY) return false;
            for (int t = 0; t < terms; t++) {
                if (termTongue[t] != tongue) continue;
                if (bookSide(k).howOften(termBook[t]) != led[k].howOften(termLed[t])) return true;
            }
            return false;
        }

        /** OFFER for a row of WORDS, or NOBODY. */
        int nearest(int tongue, Row row) {
            int best = NOBODY;
            int least = 0;
            for (int k = 0; k < pairs; k++) {
                if (tongueOf[k] != tongue) continue;
                int cost = folds.costOf(bookSide(k), row);
                if (best == NOBODY || cost < least) {
                    best = k;
                    least = cost;
                }
            }
            return best;
        }
    }

    /** What EDITIONS were made of. */
    private static final class Shelf {
        final long[] set = new long[EDITIONS];
        final int[] tongue = new int[EDITIONS];
        final int[] width = new int[EDITIONS];
        final int[] height = new int[EDITIONS];
        int count;

        void add(long itsSet, int itsTongue, int itsWidth, int itsHeight) {
            if (count >= EDITIONS) return;
            set[count] = itsSet;
            tongue[count] = itsTongue;
            width[count] = itsWidth;
            height[count] = itsHeight;
            count++;
        }
    }

    /** How the WORDS of one SENTENCE are broken into LINES. */
    private static final class Breaking {
        private static final int TOO_MUCH = 1000000;
        private final int[] wide = new int[LINES];
        // for the LINES from a WORD on: the least sum of squares, and the WORD behind the first LINE
        private final int[] least = new int[LINES + 1];
        final int[] end = new int[LINES + 1];
        int count;

        void fill(Row said, int digits) {
            count = 0;
            for (int i = 0; i < said.count && count < LINES; i++) {
                wide[count] = 1 + said.word[i] % 7;
                count++;
            }
            if (digits > 0 && count < LINES) {
                wide[count] = digits;
                count++;
            }
        }

        void breakUp(int width) {
            least[count] = 0;
            for (int from = count - 1; from >= 0; from--) {
                breakFrom(from, width);
            }
        }

        private void breakFrom(int from, int width) {
            least[from] = TOO_MUCH;
            end[from] = from + 1;
            int left = width + 1;
            for (int i = from; i < count; i++) {
                left -= 1 + wide[i];
                if (left < 0) break;
                int sum = i + 1 == count ? 0 : left * left + least[i + 1];
                // of equal sums the later end has more WORDS in this LINE
                if (sum <= least[from]) {
                    least[from] = sum;
                    end[from] = i + 1;
                }
            }
        }

        int squares() {
            return least[0];
        }
    }

    /** PAGES as they are filled. */
    private static final class Paper {
        private int height;
        private int current;
        private int used;
        int linesLeft;

        void begin(int itsHeight) {
            height = itsHeight;
            current = 1;
            used = 0;
            linesLeft = 0;
        }

        /** So many lines on one page: which. */
        int take(int lines) {
            if (used + lines > height) {
                linesLeft += height - used;
                current++;
                used = 0;
            }
            used += lines;
            return current;
        }

        int whereOneLineWouldCome() {
            return used + 1 > height ? current + 1 : current;
        }

        int pagesInAll() {
            return used == 0 ? 0 : current;
        }
    }

    /** An EDITION as it is set in LINES and PAGES. */
    private static final class Setting {
        private final Log log;
        private final Tongues tongues;
        private final Book book;
        private final Breaking breaking = new Breaking();
        final Paper paper = new Paper();
        final Row[] said = new Row[CHANGES];
        // the PIECE the page of which a SENTENCE tells, or NOBODY
        private final int[] tiedTo = new int[CHANGES];
        final int[] page = new int[CHANGES];
        private final int[] pageBefore = new int[CHANGES];
        final int[] lineCount = new int[CHANGES];
        final int[] linePage = new int[CHANGES * LINES];
        private final int[] lineWords = new int[CHANGES * LINES];
        int rounds;
        boolean goesRound;
        int allLines;
        int squares;

        Setting(Log log, Tongues tongues, Book book) {
            this.log = log;
            this.tongues = tongues;
            this.book = book;
            for (int p = 0; p < CHANGES; p++) {
                said[p] = log.nothing;
            }
        }

        void make(long set, int firm, Shelf shelf, int edition) {
            book.work(set, firm);
            prepare(shelf.tongue[edition]);
            rounds = 0;
            goesRound = true;
            while (goesRound && rounds < ROUNDS) {
                System.arraycopy(page, 0, pageBefore, 0, CHANGES);
                setAll(shelf.width[edition], shelf.height[edition]);
                rounds++;
                goesRound = rounds == 1 || isOtherThanBefore();
            }
        }

        private void prepare(int tongue) {
            for (int p = 0; p < log.made; p++) {
                int pair = tongues.leading(tongue, p, book);
                said[p] = pair == NOBODY ? book.wordsOf(p) : tongues.led[pair];
                tiedTo[p] = book.isSeen(book.tie[p]) ? book.tie[p] : NOBODY;
                lineCount[p] = 0;
                // the first ROUND's numbers have 1 digit
                page[p] = 1;
            }
        }

        private boolean isOtherThanBefore() {
            for (int k = 0; k < book.readCount; k++) {
                int p = book.read[k];
                if (page[p] != pageBefore[p]) return true;
            }
            return false;
        }

        private void setAll(int width, int height) {
            paper.begin(height);
            allLines = 0;
            squares = 0;
            for (int k = 0; k < book.readCount; k++) {
                int p = book.read[k];
                if (log.sort[p] == SENTENCE) setSentence(p, width);
                else page[p] = paper.take(linesOf(p));
            }
        }

        private void setSentence(int p, int width) {
            breaking.fill(said[p], digitsOf(p));
            breaking.breakUp(width);
            page[p] = paper.whereOneLineWouldCome();
            int from = 0;
            int lines = 0;
            while (from < breaking.count && lines < LINES) {
                int to = breaking.end[from];
                int taken = to == breaking.count ? 1 + book.note[p] : 1;
                linePage[p * LINES + lines] = paper.take(taken);
                lineWords[p * LINES + lines] = to - from;
                lines++;
                from = to;
            }
            // a NOTE may take the only LINE to a page behind that on which one line would come
            if (lines > 0) page[p] = linePage[p * LINES];
            lineCount[p] = lines;
            allLines += lines;
            squares += breaking.squares();
        }

        private int digitsOf(int p) {
            if (tiedTo[p] == NOBODY) return 0;
            int digits = 1;
            for (int rest = pageBefore[tiedTo[p]] / 10; rest > 0; rest /= 10) {
                digits++;
            }
            return digits;
        }

        int numberOf(int p) {
            return tiedTo[p] == NOBODY ? NONE : page[tiedTo[p]];
        }

        int linesOf(int p) {
            if (log.sort[p] == SENTENCE) return lineCount[p];
            return log.sort[p] == PICTURE ? log.high[p] : 1;
        }

        int lastPageOf(int p) {
            return lineCount[p] == 0 ? page[p] : linePage[p * LINES + lineCount[p] - 1];
        }

        int wordsInLine(int p, int i) {
            return i >= 0 && i < lineCount[p] ? lineWords[p * LINES + i] : NONE;
        }

        boolean isSaidInLine(int w, int p, int line) {
            int from = 0;
            for (int l = 0; l < line; l++) {
                from += lineWords[p * LINES + l];
            }
            int to = Math.min(from + lineWords[p * LINES + line], said[p].count);
            for (int i = from; i < to; i++) {
                if (said[p].word[i] == w) return true;
            }
            return false;
        }
    }
}

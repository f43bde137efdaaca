/** Promises 33 to 39: EDITIONS, their LINES and PAGES, what would be otherwise, what is told. */
public final class EditionsTest {
    private static final int UNKNOWN = Check.UNKNOWN, OUTSIDE = Check.OUTSIDE, FULL = Check.FULL, NONE = Check.NONE;

    private static int lead(Check.Case c, int tongue, int source, int piece, int... row) {
        c.pad(5, row);
        return c.x.lead(tongue, source, piece, 5);
    }

    /** All that pages() tells. */
    private static void duePages(Check.Case c, int edition, int... due) {
        for (int what = 0; what < 6; what++) c.due(due[what], c.x.pages(edition, what));
    }

    private static void dueOnPage(Check.Case c, int edition, int piece, int... due) {
        for (int what = 0; what < 4; what++) c.due(due[what], c.x.onPage(edition, piece, what));
    }

    private static void dueLines(Check.Case c, int edition, int piece, int... words) {
        c.due(words.length, c.x.onPage(edition, piece, 1));
        for (int i = 0; i < words.length; i++) c.due(words[i], c.x.line(edition, piece, i));
        c.due(NONE, c.x.line(edition, piece, words.length));
    }

    private static void edition() {
        Check.that("33 edition: numbers from 0 on, 6 at most; the set of then", c -> {
            int a = c.part(0);
            c.due(0, c.x.edition(0, 0, 10, 10));
            c.x.keep(0);
            c.part(0);
            c.due(1, c.x.edition(0, 1, 60, 20));
            c.due(2, c.x.edition(10, 2, 10, 20));
            c.due(1, c.x.pages(0, 0));
            c.due(UNKNOWN, c.x.onPage(0, a + 1, 0));
            c.due(1, c.x.onPage(1, a + 1, 0));
            c.due(UNKNOWN, c.x.onPage(2, a + 1, 0));
            for (int k = 3; k < 6; k++) c.due(k, c.x.edition(0, 0, 10, 10));
            c.due(FULL, c.x.edition(0, 0, 10, 10));
            c.due(OUTSIDE, c.x.edition(0, 0, 10, 9));
            c.due(UNKNOWN, c.x.edition(6, 0, 10, 9));
            c.due(6, c.x.told(7));
        });
        Check.that("33 edition: refusals in order", c -> {
            c.due(UNKNOWN, c.x.edition(6, 0, 0, 0));
            c.due(UNKNOWN, c.x.edition(0, 3, 0, 0));
            c.due(UNKNOWN, c.x.edition(0, -1, 10, 10));
            c.due(UNKNOWN, c.x.edition(10, 0, 10, 10));
            c.due(OUTSIDE, c.x.edition(0, 0, 9, 10));
            c.due(OUTSIDE, c.x.edition(0, 0, 61, 10));
            c.due(OUTSIDE, c.x.edition(0, 0, 10, 9));
            c.due(OUTSIDE, c.x.edition(0, 0, 10, 21));
            c.due(0, c.x.told(7));
        });
    }

    private static void pages() {
        Check.that("34 pages: of a book in which nothing is set", c -> {
            int e = c.x.edition(0, 0, 10, 10);
            duePages(c, e, 0, 2, 0, 0, 0, 0);
            int s = c.sentence(0, -1);
            c.x.note(0, s, 3);
            int f = c.x.edition(0, 0, 10, 10);
            duePages(c, f, 0, 2, 0, 0, 0, 0);
            dueOnPage(c, f, s, 1, 0, 1, NONE);
        });
        Check.that("34 pages: LINES with the least sum of squares, not as full as they go", c -> {
            // 3, 3, 2, 6, 7 points wide
            int s = c.sentence(0, -1, 2, 9, 1, 5, 6);
            int e = c.x.edition(0, 0, 10, 10);
            dueLines(c, e, s, 2, 2, 1);
            duePages(c, e, 1, 2, 0, 3, 3 * 3 + 1, 0);
            // 5, 4, 5, 7: of several those with more WORDS in the first line that is unlike
            c.say(0, s, 4, 3, 11, 6);
            int f = c.x.edition(0, 0, 10, 10);
            dueLines(c, f, s, 2, 1, 1);
            duePages(c, f, 1, 2, 0, 3, 25, 0);
        });
        Check.that("34 pages: a WORD is 1 and what is left over by 7 wide, one point between", c -> {
            int s = c.sentence(0, -1, 7, 14, 98, 7, 7, 7, 7, 7);
            int t = c.sentence(0, -1, 99, 6);
            int e = c.x.edition(0, 0, 15, 10);
            dueLines(c, e, s, 8);
            // 2, 7
            dueLines(c, e, t, 2);
            int f = c.x.edition(0, 0, 14, 10);
            dueLines(c, f, s, 7, 1);
            c.due(1, c.x.pages(f, 4));
            int g = c.x.edition(0, 0, 10, 10);
            dueLines(c, g, t, 2);
            c.say(0, t, 99, 13, 7);
            int h = c.x.edition(0, 0, 11, 10);
            dueLines(c, h, t, 2, 1);
            dueLines(c, h, s, 6, 2);
            c.due(1, c.x.pages(h, 4));
        });
        Check.that("34 pages: what does not fit on a page begins the next one", c -> {
            int p = c.picture(0, -1, 9);
            int a = c.part(0);
            int b = c.part(0);
            int q = c.picture(0, -1, 9);
            int r = c.picture(0, -1, 2);
            int e = c.x.edition(0, 0, 10, 10);
            duePages(c, e, 3, 2, 0, 0, 0, 0);
            dueOnPage(c, e, p, 1, 9, 1, NONE);
            dueOnPage(c, e, a, 1, 1, 1, NONE);
            dueOnPage(c, e, b, 2, 1, 2, NONE);
            dueOnPage(c, e, q, 2, 9, 2, NONE);
            dueOnPage(c, e, r, 3, 2, 3, NONE);
            int f = c.x.edition(0, 0, 10, 19);
            duePages(c, f, 2, 2, 0, 0, 0, 8);
            c.x.strike(0, a);
            int g = c.x.edition(0, 0, 10, 10);
            // 9 and 1, 9, 2: nothing is left on the first, 1 on the second
            duePages(c, g, 3, 2, 0, 0, 0, 1);
        });
        Check.that("34 pages: a NOTE goes with the last LINE, both together", c -> {
            c.picture(0, -1, 8);
            int s = c.sentence(0, -1, 6, 6);
            c.x.note(0, s, 3);
            int e = c.x.edition(0, 0, 10, 10);
            duePages(c, e, 2, 2, 0, 2, 9, 1);
            dueOnPage(c, e, s, 1, 2, 2, NONE);
            c.say(0, s, 6);
            int f = c.x.edition(0, 0, 10, 10);
            duePages(c, f, 2, 2, 0, 1, 0, 2);
            dueOnPage(c, f, s, 2, 1, 2, NONE);
            c.x.note(0, s, 1);
            int g = c.x.edition(0, 0, 10, 10);
            duePages(c, g, 1, 2, 0, 1, 0, 0);
        });
        Check.that("34 pages: numbers of 2 digits take another ROUND", c -> {
            // "4 1 8" is 5 + 1 + 2 + 1 + 1 wide, with 12 it is one more
            int s = c.sentence(0, -1, 4, 1);
            int last = -1;
            for (int k = 0; k < 12; k++) last = c.picture(0, -1, 9);
            c.x.tie(0, s, last);
            int e = c.x.edition(0, 0, 10, 10);
            // ROUND 1: 12 pages, the first picture behind one LINE; then two LINES, and it goes to the next page
            duePages(c, e, 13, 3, 0, 2, 4, 8 + 11);
            dueLines(c, e, s, 2, 1);
            dueOnPage(c, e, s, 1, 2, 1, 13);
            int f = c.x.edition(0, 0, 11, 10);
            duePages(c, f, 12, 2, 0, 1, 0, 10);
            dueLines(c, f, s, 3);
            dueOnPage(c, f, s, 1, 1, 1, 12);
        });
        Check.that("34 pages: FOLDS, PAIRS, FIRM as they are now", c -> {
            int s = c.sentence(0, -1, 6, 6, 6);
            c.x.strike(0, s);
            c.say(0, s, 6, 6, 13);
            int e = c.x.edition(0, 1, 10, 10);
            c.due(3, c.x.pages(e, 3));
            lead(c, 1, 0, s, 1);
            c.due(1, c.x.pages(e, 3));
            c.say(0, s, 6, 6, 6);
            int f = c.x.edition(0, 1, 10, 10);
            c.due(3, c.x.pages(f, 3));
            c.x.fold(6, 13);
            c.due(1, c.x.pages(f, 3));
            c.x.firm(1);
            duePages(c, f, 0, 2, 0, 0, 0, 0);
        });
        Check.that("34 pages: refusals in order", c -> {
            c.due(UNKNOWN, c.x.pages(0, 6));
            c.x.edition(0, 0, 10, 10);
            c.due(UNKNOWN, c.x.pages(1, 0));
            c.due(UNKNOWN, c.x.pages(-1, 0));
            c.due(OUTSIDE, c.x.pages(0, 6));
            c.due(OUTSIDE, c.x.pages(0, -1));
        });
    }

    /**
     * Eight full pages; on the ninth ten SENTENCES of one LINE each, and ten PARTS; a last PART. The first SENTENCE
     * is tied to the last PART, the next ones to the PARTS ahead of it, from the last one on. As its number gets 2
     * digits a SENTENCE gets two LINES, and drives one PART more to page 10: one each ROUND.
     */
    private static int[] drivenParts(Check.Case c, int[] sentences) {
        int behind = -1;
        for (int k = 0; k < 17; k++) behind = c.x.put(0, 2, -1, behind, k == 16 ? 2 : 9);
        for (int k = 0; k < 10; k++) {
            behind = c.x.put(0, 1, -1, behind, 1);
            sentences[k] = behind;
            c.say(0, behind, 4, 1);
        }
        int[] parts = new int[11];
        for (int k = 0; k < 11; k++) {
            behind = c.x.put(0, 0, -1, behind, 1);
            parts[k] = behind;
        }
        for (int k = 0; k < 10; k++) c.x.tie(0, sentences[k], parts[10 - k]);
        return parts;
    }

    private static void rounds() {
        Check.that("34 pages: by ROUND 10 not as ahead: it goes ROUND", c -> {
            int[] s = new int[10];
            int[] parts = drivenParts(c, s);
            c.due(58, c.x.told(0));
            int e = c.x.edition(0, 0, 10, 20);
            duePages(c, e, 10, 10, 1, 19, 36, 14);
            dueOnPage(c, e, s[8], 9, 2, 9, 10);
            // its number is that of the SETTING, its LINES have the digits of the ROUND ahead
            dueOnPage(c, e, s[9], 9, 1, 9, 10);
            c.due(9, c.x.onPage(e, parts[0], 0));
            c.due(10, c.x.onPage(e, parts[1], 0));
            c.x.tie(0, s[8], -1);
            // settled by ROUND 10 just so
            int f = c.x.edition(0, 0, 10, 20);
            duePages(c, f, 10, 10, 0, 18, 32, 14);
            dueOnPage(c, f, s[8], 9, 1, 9, NONE);
            dueOnPage(c, f, s[9], 9, 1, 9, 9);
            c.x.tie(0, s[5], -1);
            int g = c.x.edition(0, 0, 10, 20);
            duePages(c, g, 10, 7, 0, 15, 20, 14);
        });
    }

    private static void onPage() {
        Check.that("35 onPage: a SENTENCE over pages, one without LINES, what its TIE tells", c -> {
            int p = c.picture(0, -1, 9);
            int s = c.sentence(0, -1, 6, 6, 6);
            int empty = c.sentence(0, -1);
            int t = c.sentence(0, -1);
            c.x.tie(0, t, s);
            c.x.note(0, t, 1);
            int a = c.part(0);
            int e = c.x.edition(0, 0, 10, 10);
            dueOnPage(c, e, p, 1, 9, 1, NONE);
            dueOnPage(c, e, s, 1, 3, 2, NONE);
            dueOnPage(c, e, empty, 2, 0, 2, NONE);
            dueOnPage(c, e, t, 2, 1, 2, 1);
            dueOnPage(c, e, a, 2, 1, 2, NONE);
            duePages(c, e, 2, 2, 0, 4, 18, 0);
            c.say(0, s, 6);
            int f = c.x.edition(0, 0, 10, 10);
            // the page is full: something of one line would come on the next
            dueOnPage(c, f, s, 1, 1, 1, NONE);
            dueOnPage(c, f, empty, 2, 0, 2, NONE);
            dueOnPage(c, f, t, 2, 1, 2, 1);
        });
        Check.that("35 onPage: a SENTENCE without LINES where just one line is left", c -> {
            c.picture(0, -1, 9);
            int empty = c.sentence(0, -1);
            c.x.note(0, empty, 3);
            int a = c.part(0);
            int behind = c.sentence(0, -1);
            int e = c.x.edition(0, 0, 10, 10);
            dueOnPage(c, e, empty, 1, 0, 1, NONE);
            dueOnPage(c, e, a, 1, 1, 1, NONE);
            dueOnPage(c, e, behind, 2, 0, 2, NONE);
            duePages(c, e, 1, 2, 0, 0, 0, 0);
        });
        Check.that("35 onPage: a TIE to itself, to a STRUCK PIECE, to one in a STRUCK PART", c -> {
            int a = c.part(0);
            int in = c.sentence(0, a);
            int s = c.sentence(0, -1, 3);
            c.x.tie(0, s, s);
            int e = c.x.edition(0, 0, 10, 10);
            dueOnPage(c, e, s, 1, 1, 1, 1);
            dueLines(c, e, s, 2);
            c.x.tie(0, s, in);
            int f = c.x.edition(0, 0, 10, 10);
            c.due(1, c.x.onPage(f, s, 3));
            c.x.strike(0, a);
            int g = c.x.edition(0, 0, 10, 10);
            c.due(NONE, c.x.onPage(g, s, 3));
            dueLines(c, g, s, 1);
            c.due(UNKNOWN, c.x.onPage(g, in, 0));
        });
        Check.that("35 onPage: refusals in order", c -> {
            int a = c.part(0);
            c.x.edition(0, 0, 10, 10);
            c.part(0);
            c.due(UNKNOWN, c.x.onPage(1, a, 4));
            c.due(UNKNOWN, c.x.onPage(-1, a, 0));
            c.due(UNKNOWN, c.x.onPage(0, a + 1, 4));
            c.due(UNKNOWN, c.x.onPage(0, -1, 0));
            c.due(UNKNOWN, c.x.onPage(0, 99, 0));
            c.due(OUTSIDE, c.x.onPage(0, a, 4));
            c.due(OUTSIDE, c.x.onPage(0, a, -1));
        });
    }

    private static void line() {
        Check.that("36 line: how many WORDS, the number too", c -> {
            int s = c.sentence(0, -1, 3, 3, 3);
            int a = c.part(0);
            int p = c.picture(0, -1, 2);
            int empty = c.sentence(0, -1);
            c.x.tie(0, s, a);
            int e = c.x.edition(0, 0, 11, 10);
            // 4 + 1 + 4, 4 + 1 + 1
            dueLines(c, e, s, 2, 2);
            c.due(NONE, c.x.line(e, s, -1));
            c.due(NONE, c.x.line(e, s, 2));
            c.due(NONE, c.x.line(e, a, 0));
            c.due(NONE, c.x.line(e, p, 0));
            c.due(NONE, c.x.line(e, empty, 0));
            c.due(UNKNOWN, c.x.line(e + 1, s, 0));
            c.due(UNKNOWN, c.x.line(e, 99, 0));
            c.due(UNKNOWN, c.x.line(e, -1, 0));
            int t = c.sentence(0, -1, 3);
            c.due(UNKNOWN, c.x.line(e, t, 0));
        });
        Check.that("36 line: eight WORDS and a number, all on LINES of their own", c -> {
            int s = c.sentence(0, -1, 6, 6, 6, 6, 6, 6, 6, 6);
            c.x.tie(0, s, s);
            int e = c.x.edition(0, 0, 10, 10);
            dueLines(c, e, s, 1, 1, 1, 1, 1, 1, 1, 2);
            c.due(7 * 9, c.x.pages(e, 4));
            c.x.tie(0, s, -1);
            int f = c.x.edition(0, 0, 10, 10);
            dueLines(c, f, s, 1, 1, 1, 1, 1, 1, 1, 1);
        });
    }

    private static void index() {
        Check.that("37 index: pages on which a WORD is SAID, once each", c -> {
            c.picture(0, -1, 9);
            int s = c.sentence(0, -1, 6, 13, 6, 6);
            int t = c.sentence(0, -1, 6, 1);
            c.x.tie(0, t, s);
            int p = c.picture(0, -1, 9);
            int u = c.sentence(0, -1, 20);
            int e = c.x.edition(0, 0, 10, 10);
            // s: page 1, then three LINES on 2; t on 2; the picture on 3, u behind it
            c.due(2, c.x.index(e, 6, -1));
            c.due(1, c.x.index(e, 6, 0));
            c.due(2, c.x.index(e, 6, 1));
            c.due(NONE, c.x.index(e, 6, 2));
            c.due(NONE, c.x.index(e, 6, -2));
            c.due(1, c.x.index(e, 13, -1));
            c.due(2, c.x.index(e, 13, 0));
            c.due(3, c.x.index(e, 20, 0));
            c.due(1, c.x.index(e, 1, -1));
            c.due(2, c.x.index(e, 1, 0));
            c.x.fold(13, 20);
            c.due(1, c.x.index(e, 13, -1));
            c.due(3, c.x.onPage(e, p, 0));
            c.x.strike(0, u);
            int f = c.x.edition(0, 0, 10, 10);
            c.due(0, c.x.index(f, 20, -1));
            c.due(NONE, c.x.index(f, 20, 0));
        });
        Check.that("37 index: WORDS of each LINE on that LINE's page alone", c -> {
            c.picture(0, -1, 8);
            c.sentence(0, -1, 6, 13, 20, 27);
            int e = c.x.edition(0, 0, 10, 10);
            int[] words = {6, 13, 20, 27};
            int[] pages = {1, 1, 2, 2};
            for (int i = 0; i < 4; i++) {
                c.due(1, c.x.index(e, words[i], -1));
                c.due(pages[i], c.x.index(e, words[i], 0));
            }
            int f = c.x.edition(0, 0, 15, 10);
            for (int w : words) c.due(1, c.x.index(f, w, 0));
            int g = c.x.edition(0, 0, 15, 20);
            for (int w : words) c.due(1, c.x.index(g, w, -1));
        });
        Check.that("37 index: as it is SAID in the TONGUE, the number of a TIE is no WORD", c -> {
            int s = c.sentence(0, -1, 5, 6);
            c.x.tie(0, s, s);
            lead(c, 1, 0, s, 50);
            int own = c.x.edition(0, 0, 30, 10);
            int led = c.x.edition(0, 1, 30, 10);
            int other = c.x.edition(0, 2, 30, 10);
            c.due(0, c.x.index(own, 1, -1));
            c.due(1, c.x.index(own, 5, -1));
            c.due(0, c.x.index(own, 50, -1));
            c.due(0, c.x.index(led, 5, -1));
            c.due(1, c.x.index(led, 50, 0));
            c.due(1, c.x.index(other, 6, 0));
            dueLines(c, led, s, 2);
        });
        Check.that("37 index: refusals in order", c -> {
            c.due(UNKNOWN, c.x.index(0, 0, -1));
            c.x.edition(0, 0, 10, 10);
            c.due(OUTSIDE, c.x.index(0, 0, -1));
            c.due(OUTSIDE, c.x.index(0, 100, 0));
            c.due(UNKNOWN, c.x.index(1, 5, 0));
            c.due(0, c.x.index(0, 99, -1));
        });
    }

    private static void dueReach(Check.Case c, int edition, int source, int... due) {
        for (int what = 0; what < 5; what++) c.due(due[what], c.x.reach(edition, source, what));
    }

    private static void reach() {
        Check.that("38 reach: PIECES, SENTENCES, TIES, first page, RULES", c -> {
            int p = c.picture(0, -1, 9);
            int s = c.sentence(0, -1, 6);
            int t = c.sentence(0, -1, 6, 6);
            int u = c.sentence(0, -1, 6);
            c.x.tie(0, s, t);
            c.x.rule(0, s);
            c.x.rule(0, u);
            c.x.rule(0, -1);
            c.x.yes(0, -1);
            int e = c.x.edition(0, 0, 10, 10);
            // p and s on page 1, t and u on 2
            dueReach(c, e, 0, 0, 0, 0, NONE, 0);
            c.x.give(0, 1, 60);
            c.x.give(0, 2, 60);
            c.say(1, u, 5);
            dueReach(c, e, 1, 0, 1, 0, NONE, 3);
            c.x.strike(1, t);
            // t is SEEN in the EDITION alone; s tells no number
            dueReach(c, e, 1, 1, 1, 1, 2, 3);
            c.x.strike(2, p);
            // s stays on page 1; t and u come to it, too
            dueReach(c, e, 2, 3, 0, 1, 1, 0);
            dueReach(c, e, 3, 4, 0, 0, 1, 1);
            int a = c.x.put(0, 0, -1, -1, 1);
            // a is new, s goes to page 2
            dueReach(c, e, 0, 2, 0, 0, 1, 0);
            c.x.put(0, 0, -1, a, 1);
            // p and s go to page 2, t and u to 3
            dueReach(c, e, 0, 6, 0, 1, 1, 0);
        });
        Check.that("38 reach: in the EDITION's TONGUE and measures; WORDS alike by a FOLD are said otherwise", c -> {
            int s = c.sentence(0, -1, 6, 6);
            int t = c.part(0);
            lead(c, 1, 0, s, 1);
            c.x.give(0, 1, 60);
            c.say(1, s, 6, 13);
            int own = c.x.edition(0, 0, 10, 10);
            int led = c.x.edition(0, 1, 10, 10);
            c.due(1, c.x.reach(own, 1, 1));
            c.due(1, c.x.reach(led, 1, 1));
            c.x.fold(6, 13);
            c.due(1, c.x.reach(own, 1, 1));
            c.due(0, c.x.reach(led, 1, 1));
            c.due(0, c.x.reach(led, 1, 0));
            c.due(1, c.x.onPage(led, t, 0));
        });
        Check.that("38 reach: a RULE that was not MET in the EDITION does not count", c -> {
            int s = c.sentence(0, -1, 6);
            c.x.rule(0, s);
            c.x.rule(1, s);
            c.x.give(0, 1, 60);
            c.x.yes(1, s);
            int e = c.x.edition(0, 0, 10, 10);
            c.say(1, s, 7);
            c.due(1, c.x.reach(e, 1, 4));
            c.x.yes(0, s);
            c.due(2, c.x.reach(e, 1, 4));
            c.due(0, c.x.reach(e, 2, 4));
        });
        Check.that("38 reach: refusals in order", c -> {
            c.due(UNKNOWN, c.x.reach(0, 0, 5));
            c.x.edition(0, 0, 10, 10);
            c.due(UNKNOWN, c.x.reach(0, 6, 5));
            c.due(UNKNOWN, c.x.reach(0, 10, 0));
            c.due(UNKNOWN, c.x.reach(-1, 0, 0));
            c.due(OUTSIDE, c.x.reach(0, 0, 5));
            c.due(OUTSIDE, c.x.reach(0, 0, -1));
        });
    }

    private static void told() {
        Check.that("39 told: all that is counted", c -> {
            int s = c.sentence(0, -1, 5);
            c.x.give(0, 3, 1);
            c.x.keep(0);
            c.x.keep(0);
            c.x.rule(0, -1);
            c.x.yes(0, -1);
            c.x.yes(0, -1);
            c.x.yes(0, -1);
            c.x.fold(1, 2);
            lead(c, 1, 0, s, 9);
            c.x.term(1, 1, 2);
            c.x.term(1, 1, 2);
            c.x.edition(0, 0, 10, 10);
            c.x.firm(1);
            c.pad(2, 4, 4, 4);
            int[] due = {2, 2, 1, 3, 1, 1, 2, 1, 1};
            for (int what = 0; what < 9; what++) c.due(due[what], c.x.told(what));
            int[] has = {2, 0, 0, 1, 0, 0};
            int[] pads = {0, 0, 3, 0, 0, 0};
            for (int hand = 0; hand < 6; hand++) {
                c.due(has[hand], c.x.told(10 + hand));
                c.due(pads[hand], c.x.told(20 + hand));
            }
            for (int what : new int[] {-1, 9, 16, 19, 26, 100, Integer.MIN_VALUE, Integer.MAX_VALUE}) {
                c.due(OUTSIDE, c.x.told(what));
            }
        });
    }

    public static void main(String[] args) {
        edition();
        pages();
        rounds();
        onPage();
        line();
        index();
        reach();
        told();
        Check.end();
    }
}

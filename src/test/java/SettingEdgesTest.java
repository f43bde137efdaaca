/** Edges of how EDITIONS are set (6 of the terms): WORDS, LINES, PAGES, NOTES, TIES, ROUNDS, what is SAID. */
public final class SettingEdgesTest {
    private static final int NONE = Check.NONE, UNKNOWN = Check.UNKNOWN;

    /** A SENTENCE alone in a house; how it is set in an EDITION of this width. */
    private static BookHouse alone(int width, int... row) {
        BookHouse x = new BookHouse();
        x.put(0, 1, -1, -1, 1);
        Houses.words(x, 0, 0, row);
        x.edition(0, 0, width, 10);
        return x;
    }

    /** Its LINES have so many WORDS, and what is left in all but the last, squared, is so much together. */
    private static void dueLines(Check.Case c, BookHouse x, int squares, int... counts) {
        c.due(counts.length, x.onPage(0, 0, 1));
        c.due(counts.length, x.pages(0, 3));
        for (int i = 0; i < counts.length; i++) c.due(counts[i], x.line(0, 0, i));
        c.due(NONE, x.line(0, 0, counts.length));
        c.due(squares, x.pages(0, 4));
    }

    private static void lines() {
        Check.that("setting: each WORD from 1 to 99 is 1 and w left over by 7 points wide", c -> {
            // what is left of the first LINES of w 6 6, by how wide w is, in 10 points
            int[] squares = {0, 1, 0, 49 + 9, 36 + 9, 25 + 9, 16 + 9, 9 + 9};
            for (int w = 1; w <= 99; w++) {
                int wide = w == 7 ? 1 : 1 + w % 7;
                c.due(squares[wide], alone(10, w, 6, 6).pages(0, 4));
            }
        });
        Check.that("setting: a LINE of W points just so, and of one point more", c -> {
            dueLines(c, alone(10, 6, 1), 0, 2);
            dueLines(c, alone(10, 6, 2), 9, 1, 1);
            dueLines(c, alone(11, 6, 2), 0, 2);
            dueLines(c, alone(60, 6, 6, 6, 6, 6, 6, 6, 3), 0, 8);
            dueLines(c, alone(60, 6, 6, 6, 6, 6, 6, 6, 4), 25, 7, 1);
            dueLines(c, alone(59, 6, 6, 6, 6, 6, 6, 6, 3), 16, 7, 1);
        });
        Check.that("setting: eight of the widest, eight of the narrowest, in the narrowest and the widest LINES", c -> {
            dueLines(c, alone(10, 6, 6, 6, 6, 6, 6, 6, 6), 7 * 9, 1, 1, 1, 1, 1, 1, 1, 1);
            dueLines(c, alone(60, 6, 6, 6, 6, 6, 6, 6, 6), 25, 7, 1);
            dueLines(c, alone(10, 7, 7, 7, 7, 7, 7, 7, 7), 1, 5, 3);
            dueLines(c, alone(60, 7, 7, 7, 7, 7, 7, 7, 7), 0, 8);
            dueLines(c, alone(14, 7, 7, 7, 7, 7, 7, 7, 7), 1, 7, 1);
            dueLines(c, alone(15, 7, 7, 7, 7, 7, 7, 7, 7), 0, 8);
        });
        Check.that("setting: what is left in the last LINE does not count", c -> {
            dueLines(c, alone(60, 7), 0, 1);
            dueLines(c, alone(10, 6, 7), 0, 2);
            dueLines(c, alone(10, 6, 6), 9, 1, 1);
        });
        Check.that("setting: the least sum, where the first LINE as full as it goes is not the least", c -> {
            // 3 3 2 6 7 wide: 3 3 2 in one LINE leave 0 and then 4 of 6; 3 3 and 2 6 leave 3 and 1
            dueLines(c, alone(10, 2, 2, 1, 5, 6), 10, 2, 2, 1);
            // 4 4 7: one way alone
            dueLines(c, alone(10, 3, 3, 6), 1, 2, 1);
        });
        Check.that("setting: of several sums alike more WORDS in the first line that is unlike, be it the second", c -> {
            dueLines(c, alone(10, 4, 3, 11, 6), 25, 2, 1, 1);
            dueLines(c, alone(10, 6, 4, 3, 11, 6), 9 + 25, 1, 2, 1, 1);
            // three ways each
            dueLines(c, alone(10, 4, 3, 4, 2, 4, 6, 5, 7), 35, 2, 2, 1, 1, 2);
            dueLines(c, alone(12, 6, 7, 3, 1, 5, 5), 70, 2, 2, 1, 1);
            dueLines(c, alone(10, 1, 6, 3, 1, 3, 1, 3, 5), 54, 2, 2, 2, 1, 1);
        });
        Check.that("setting: none without WORDS and number; one of a number alone, WORDS being none", c -> {
            dueLines(c, alone(10), 0);
            BookHouse x = new BookHouse();
            x.put(0, 1, -1, -1, 1);
            x.tie(0, 0, 0);
            x.edition(0, 0, 10, 10);
            dueLines(c, x, 0, 1);
            c.due(1, x.onPage(0, 0, 3));
            c.due(0, x.index(0, 1, -1));
        });
        Check.that("setting: the number is as one WORD more: it fits by its digits", c -> {
            // 5 and 2 wide: 10 points with 1 digit; one with 2 digits stands on a second LINE
            for (int pictures = 9; pictures <= 10; pictures++) {
                BookHouse x = new BookHouse();
                x.put(0, 1, -1, -1, 1);
                for (int k = 0; k < pictures; k++) x.put(0, 2, -1, k, 9);
                Houses.words(x, 0, 0, 4, 1);
                x.tie(0, 0, pictures);
                for (int width = 10; width <= 11; width++) x.edition(0, 0, width, 10);
                boolean isBroken = pictures == 10;
                c.due(isBroken ? 11 : 9, x.onPage(0, 0, 3));
                c.due(isBroken ? 2 : 1, x.onPage(0, 0, 1));
                c.due(isBroken ? 2 : 3, x.line(0, 0, 0));
                c.due(isBroken ? 1 : NONE, x.line(0, 0, 1));
                c.due(pictures, x.onPage(1, 0, 3));
                c.due(3, x.line(1, 0, 0));
            }
        });
    }

    /** A house with so many PARTS, one line each, put one behind the other. */
    private static BookHouse parts(int count) {
        BookHouse x = new BookHouse();
        for (int k = 0; k < count; k++) x.put(0, 0, -1, k - 1, 1);
        return x;
    }

    private static void pages() {
        Check.that("setting: PAGES of H lines: the H-th is on the page, the next one is not", c -> {
            for (int h = 10; h <= 20; h += 10) {
                BookHouse x = parts(h);
                x.edition(0, 0, 10, h);
                c.due(1, x.pages(0, 0));
                c.due(0, x.pages(0, 5));
                x.put(0, 0, -1, h - 1, 1);
                x.edition(0, 0, 10, h);
                c.due(2, x.pages(1, 0));
                c.due(0, x.pages(1, 5));
                c.due(1, x.onPage(1, h - 1, 0));
                c.due(2, x.onPage(1, h, 0));
            }
        });
        Check.that("setting: 60 lines are 6 pages of 10, and 3 of 20", c -> {
            BookHouse x = parts(60);
            x.edition(0, 0, 10, 10);
            x.edition(0, 0, 10, 20);
            c.due(6, x.pages(0, 0));
            c.due(3, x.pages(1, 0));
            c.due(6, x.onPage(0, 59, 0));
            c.due(3, x.onPage(1, 59, 0));
        });
        Check.that("setting: a PICTURE 1 to 9 high that just fits on the page, and one that does not any more", c -> {
            for (int high = 1; high <= 9; high++) {
                BookHouse x = parts(10 - high);
                int fits = x.put(0, 2, -1, 9 - high, high);
                x.edition(0, 0, 10, 10);
                c.due(1, x.onPage(0, fits, 0));
                c.due(high, x.onPage(0, fits, 1));
                c.due(0, x.pages(0, 5));
                x.put(0, 0, -1, -1, 1);
                x.edition(0, 0, 10, 10);
                c.due(2, x.onPage(1, fits, 0));
                c.due(2, x.pages(1, 0));
                c.due(high - 1, x.pages(1, 5));
            }
        });
        Check.that("setting: a SENTENCE's LINES go one by one over the page's end", c -> {
            BookHouse x = parts(7);
            x.put(0, 1, -1, 6, 1);
            Houses.words(x, 0, 7, 6, 6, 6, 6);
            x.edition(0, 0, 10, 10);
            c.due(1, x.onPage(0, 7, 0));
            c.due(2, x.onPage(0, 7, 2));
            c.due(0, x.pages(0, 5));
            x.put(0, 0, -1, -1, 1);
            x.put(0, 0, -1, -1, 1);
            x.edition(0, 0, 10, 10);
            c.due(1, x.onPage(1, 7, 0));
            x.put(0, 0, -1, -1, 1);
            x.edition(0, 0, 10, 10);
            c.due(2, x.onPage(2, 7, 0));
            c.due(2, x.onPage(2, 7, 2));
        });
        Check.that("setting: the NOTE of 0 to 3 lines that just fits beside the last LINE, and one that does not", c -> {
            for (int note = 0; note <= 3; note++) {
                BookHouse x = parts(9 - note);
                int s = x.put(0, 1, -1, 8 - note, 1);
                Houses.words(x, 0, s, 6);
                x.note(0, s, note);
                x.edition(0, 0, 10, 10);
                c.due(1, x.onPage(0, s, 2));
                c.due(1, x.pages(0, 0));
                c.due(0, x.pages(0, 5));
                x.put(0, 0, -1, -1, 1);
                x.edition(0, 0, 10, 10);
                c.due(2, x.onPage(1, s, 0));
                c.due(2, x.onPage(1, s, 2));
                c.due(note, x.pages(1, 5));
                c.due(1, x.onPage(1, s, 1));
            }
        });
        Check.that("setting: the last LINE alone goes to the next page with its NOTE", c -> {
            BookHouse x = parts(7);
            int s = x.put(0, 1, -1, 6, 1);
            Houses.words(x, 0, s, 6, 6);
            x.note(0, s, 2);
            x.edition(0, 0, 10, 10);
            c.due(1, x.onPage(0, s, 0));
            c.due(2, x.onPage(0, s, 2));
            c.due(2, x.pages(0, 5));
            x.note(0, s, 1);
            x.edition(0, 0, 10, 10);
            c.due(1, x.onPage(1, s, 2));
            int behind = x.put(0, 0, -1, s, 1);
            x.edition(0, 0, 10, 10);
            c.due(2, x.onPage(2, behind, 0));
        });
        Check.that("setting: a NOTE of a SENTENCE without LINES is not set; of one with a number alone it is", c -> {
            BookHouse x = parts(9);
            int s = x.put(0, 1, -1, -1, 1);
            x.note(0, s, 3);
            x.edition(0, 0, 10, 10);
            c.due(1, x.pages(0, 0));
            c.due(1, x.onPage(0, 8, 0));
            x.tie(0, s, s);
            x.edition(0, 0, 10, 10);
            c.due(2, x.pages(1, 0));
            c.due(1, x.onPage(1, 5, 0));
            c.due(2, x.onPage(1, 6, 0));
        });
        Check.that("setting: a SENTENCE without LINES where one line is left, where none is, and ahead of all", c -> {
            for (int count = 9; count <= 10; count++) {
                BookHouse x = parts(count);
                int first = x.put(0, 1, -1, -1, 1);
                int last = x.put(0, 1, -1, count - 1, 1);
                x.edition(0, 0, 10, 10);
                c.due(1, x.onPage(0, first, 0));
                c.due(count == 9 ? 1 : 2, x.onPage(0, last, 0));
                c.due(count == 9 ? 1 : 2, x.onPage(0, last, 2));
                c.due(0, x.onPage(0, last, 1));
                c.due(1, x.pages(0, 0));
                c.due(0, x.pages(0, 5));
            }
        });
        Check.that("setting: a TIE tells the page of a SENTENCE without LINES, though nothing is set there", c -> {
            BookHouse x = parts(9);
            int s = x.put(0, 1, -1, -1, 1);
            int last = x.put(0, 1, -1, 8, 1);
            x.tie(0, s, last);
            x.edition(0, 0, 10, 10);
            c.due(2, x.onPage(0, s, 3));
            c.due(1, x.pages(0, 0));
        });
        Check.that("setting: nothing is set: of no PIECES, of none SEEN, of SENTENCES without LINES alone", c -> {
            for (int k = 0; k < 3; k++) {
                BookHouse x = new BookHouse();
                if (k > 0) x.put(0, k - 1, -1, -1, 1);
                if (k == 1) x.strike(0, 0);
                x.edition(0, 0, 10, 10);
                int[] due = {0, 2, 0, 0, 0, 0};
                for (int what = 0; what < 6; what++) c.due(due[what], x.pages(0, what));
                c.due(k == 2 ? 1 : UNKNOWN, x.onPage(0, 0, 0));
            }
        });
        Check.that("setting: what is in a STRUCK PART takes no lines", c -> {
            BookHouse x = parts(1);
            x.put(0, 2, 0, -1, 9);
            int behind = x.put(0, 2, -1, 0, 9);
            x.edition(0, 0, 10, 10);
            c.due(2, x.onPage(0, behind, 0));
            x.strike(0, 0);
            x.edition(0, 0, 10, 10);
            c.due(1, x.onPage(1, behind, 0));
            c.due(UNKNOWN, x.onPage(1, 1, 0));
        });
        Check.that("setting: lines that are left on all pages but the last, of three", c -> {
            BookHouse x = new BookHouse();
            int[] high = {7, 4, 9, 1};
            for (int k = 0; k < 4; k++) x.put(0, 2, -1, k - 1, high[k]);
            x.edition(0, 0, 10, 10);
            c.due(3, x.pages(0, 0));
            c.due(3 + 6, x.pages(0, 5));
        });
    }

    private static void ties() {
        Check.that("setting: a TIE to a PART, a PICTURE, a SENTENCE; to itself; to none", c -> {
            for (int to = -1; to <= 3; to++) {
                BookHouse x = parts(1);
                x.put(0, 2, -1, 0, 9);
                x.put(0, 1, -1, 1, 1);
                x.put(0, 1, -1, 2, 1);
                Houses.words(x, 0, 2, 1);
                Houses.words(x, 0, 3, 1);
                x.tie(0, 3, to);
                x.edition(0, 0, 10, 10);
                c.due(to < 0 ? NONE : to < 2 ? 1 : 2, x.onPage(0, 3, 3));
                c.due(to < 0 ? 1 : 2, x.line(0, 3, 0));
            }
        });
        Check.that("setting: a TIE to a PIECE that is not SEEN, or not THERE, tells nothing", c -> {
            int part = c.part(0);
            int in = c.picture(0, part, 1);
            int s = c.sentence(0, -1, 1);
            c.x.tie(0, s, in);
            int strike = c.x.strike(0, in);
            c.x.edition(0, 0, 10, 10);
            c.due(NONE, c.x.onPage(0, s, 3));
            c.due(1, c.x.line(0, s, 0));
            c.x.back(0, strike);
            c.x.strike(0, part);
            c.x.edition(0, 0, 10, 10);
            c.due(NONE, c.x.onPage(1, s, 3));
            c.x.give(0, 1, 60);
            int there = c.x.put(1, 2, -1, -1, 1);
            c.x.tie(1, s, there);
            c.x.settle(0, s, 3, 1);
            c.x.edition(0, 0, 10, 10);
            c.due(NONE, c.x.onPage(2, s, 3));
            c.due(there, c.x.piece(0, s, 8));
            c.x.give(1, 0, 60);
            c.x.edition(0, 0, 10, 10);
            c.due(1, c.x.onPage(3, s, 3));
            c.due(2, c.x.line(3, s, 0));
        });
    }

    private static void rounds() {
        Check.that("setting: ROUNDS are 2 where no number gets other digits, 3 where one does", c -> {
            for (int count = 9; count <= 11; count++) {
                BookHouse x = new BookHouse();
                x.put(0, 1, -1, -1, 1);
                for (int k = 0; k < count; k++) x.put(0, 2, -1, k, 9);
                Houses.words(x, 0, 0, 4, 1);
                x.tie(0, 0, count);
                x.edition(0, 0, 10, 10);
                c.due(count < 10 ? 2 : 3, x.pages(0, 1));
                c.due(0, x.pages(0, 2));
                c.due(count < 10 ? count : count + 1, x.pages(0, 0));
            }
        });
        Check.that("setting: other digits alone make no ROUND, if no page becomes other", c -> {
            BookHouse x = new BookHouse();
            x.put(0, 1, -1, -1, 1);
            for (int k = 0; k < 10; k++) x.put(0, 2, -1, k, 9);
            x.tie(0, 0, 10);
            x.edition(0, 0, 10, 10);
            c.due(2, x.pages(0, 1));
            c.due(10, x.onPage(0, 0, 3));
        });
    }

    private static void said() {
        Check.that("setting: SAID in the TONGUE if it is LED and not STALE, else its own; without WORDS none", c -> {
            int led = c.sentence(0, -1, 1);
            int stale = c.sentence(0, -1, 2);
            int own = c.sentence(0, -1, 3);
            int none = c.sentence(0, -1, 4);
            for (int s = 0; s < 8; s += 2) {
                if (s == own) continue;
                c.pad(5, 50 + s, 60);
                c.x.lead(1, 0, s, 5);
            }
            c.say(0, stale, 9);
            c.say(0, none);
            for (int tongue = 0; tongue <= 2; tongue++) c.x.edition(0, tongue, 60, 20);
            for (int tongue = 0; tongue <= 2; tongue++) {
                c.due(tongue == 1 ? 2 : 1, c.x.line(tongue, led, 0));
                c.due(1, c.x.line(tongue, stale, 0));
                c.due(1, c.x.line(tongue, own, 0));
                c.due(NONE, c.x.line(tongue, none, 0));
                c.due(tongue == 1 ? 0 : 1, c.x.index(tongue, 1, -1));
                c.due(tongue == 1 ? 1 : 0, c.x.index(tongue, 50, -1));
                c.due(1, c.x.index(tongue, 9, -1));
                c.due(0, c.x.index(tongue, 2, -1));
                c.due(1, c.x.index(tongue, 3, -1));
                c.due(0, c.x.index(tongue, 50 + none, -1));
            }
            c.x.fold(9, 2);
            c.due(2, c.x.line(1, stale, 0));
            c.due(0, c.x.index(1, 9, -1));
            c.due(1, c.x.line(0, stale, 0));
        });
        Check.that("setting: the latest PAIR is SAID; of PAIRS of later on, too", c -> {
            int s = c.sentence(0, -1, 1);
            c.x.edition(0, 2, 60, 20);
            c.due(1, c.x.index(0, 1, -1));
            for (int k = 0; k < 2; k++) {
                c.pad(5, 50 + k);
                c.x.lead(2, 0, s, 5);
                c.due(0, c.x.index(0, 1, -1));
                c.due(0, c.x.index(0, 51 - k, -1));
                c.due(1, c.x.index(0, 50 + k, -1));
            }
        });
        Check.that("setting: a WORD that is SAID in two SENTENCES of a page is told once, and again on the next page", c -> {
            BookHouse x = new BookHouse();
            for (int k = 0; k < 12; k++) {
                x.put(0, 1, -1, k == 0 ? -1 : 2 * k - 2, 1);
                Houses.words(x, 0, 2 * k, k == 4 ? 2 : 1, 1);
            }
            x.edition(0, 0, 10, 10);
            c.due(2, x.index(0, 1, -1));
            c.due(1, x.index(0, 1, 0));
            c.due(2, x.index(0, 1, 1));
            c.due(NONE, x.index(0, 1, 2));
            c.due(1, x.index(0, 2, -1));
        });
    }

    private static void index() {
        Check.that("setting: a WORD is on the page of its LINE, whatever stands on the LINES ahead", c -> {
            BookHouse x = parts(7);
            int s = x.put(0, 1, -1, 6, 1);
            // 2 2 2, 7, 7 2, 2 wide: three LINES on page 1, one on page 2
            Houses.words(x, 0, s, 1, 8, 15, 6, 13, 22, 29);
            x.edition(0, 0, 10, 10);
            int[] counts = {3, 1, 2, 1};
            for (int i = 0; i < 4; i++) c.due(counts[i], x.line(0, s, i));
            int[] words = {1, 8, 15, 6, 13, 22, 29};
            for (int k = 0; k < 7; k++) {
                c.due(1, x.index(0, words[k], -1));
                c.due(k < 6 ? 1 : 2, x.index(0, words[k], 0));
            }
            x.move(0, s, -1, 4);
            x.put(0, 2, -1, 4, 4);
            x.edition(0, 0, 10, 10);
            for (int k = 0; k < 7; k++) c.due(k < 3 ? 1 : 2, x.index(1, words[k], 0));
        });
    }

    public static void main(String[] args) {
        lines();
        pages();
        ties();
        rounds();
        said();
        index();
        Check.end();
    }
}

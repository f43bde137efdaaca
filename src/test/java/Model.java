import java.util.ArrayList;
import java.util.Arrays;
import java.util.Comparator;
import java.util.LinkedHashMap;
import java.util.List;
import java.util.Map;
import java.util.TreeMap;
import java.util.TreeSet;

/**
 * The document once more, worked in another way than BookHouse (lists, trees of objects, all ways of breaking
 * LINES tried out), so that RandomRunsTest can lay the answers of both beside each other.
 */
final class Model {
    static final int UNKNOWN = -1, OUTSIDE = -2, STATE = -3, FULL = -4, NO = -5, NONE = -6, LOST = -100;

    record Change(int number, int kind, int hand, int count, int piece, int target, int behind, int sort, int high,
                  List<Integer> words) { }

    record Spoken(int word, int who) { }

    static final class Piece {
        int number, sort, high, note, tie = -1;
        Piece around;
        boolean struck;
        List<Spoken> words = new ArrayList<>();
        List<Piece> inside = new ArrayList<>();

        boolean isIn(Piece whole) {
            return this == whole || (around != null && around.isIn(whole));
        }

        List<Integer> row() {
            return words.stream().map(Spoken::word).toList();
        }
    }

    static final class Worked {
        final Piece root = new Piece();
        final Map<Integer, Piece> there = new TreeMap<>();
        final Map<Integer, Integer> came = new TreeMap<>();
        final List<Change> order = new ArrayList<>();

        List<Piece> seen() {
            List<Piece> list = new ArrayList<>();
            read(root, list);
            return list;
        }

        private void read(Piece p, List<Piece> list) {
            for (Piece q : p.inside) {
                if (q.struck) continue;
                list.add(q);
                read(q, list);
            }
        }

        Piece part(int number) {
            if (number == -1) return root;
            Piece p = there.get(number);
            return p != null && p.sort == 0 ? p : null;
        }

        boolean isSeen(int number) {
            return there.containsKey(number) && seen().contains(there.get(number));
        }

        Piece sentence(int number) {
            Piece p = there.get(number);
            return p != null && p.sort == 1 ? p : null;
        }

        int ahead(Piece p) {
            int i = p.around.inside.indexOf(p);
            return i == 0 ? -1 : p.around.inside.get(i - 1).number;
        }

        List<Integer> says(Piece whole) {
            List<Integer> all = new ArrayList<>();
            for (Piece p : seen()) if (p.isIn(whole)) all.addAll(p.row());
            return all;
        }
    }

    record Rule(int hand, int piece) { }

    record Yes(int hand, int piece, List<Integer> covers) { }

    record Pair(int tongue, int piece, List<Integer> own, List<Integer> led) { }

    record Term(int tongue, int w, int v) { }

    record Edition(TreeSet<Integer> set, int tongue, int w, int h) { }

    private final List<Change> changes = new ArrayList<>();
    private final List<TreeSet<Integer>> hands = new ArrayList<>();
    private final List<TreeSet<Integer>> states = new ArrayList<>();
    private final List<List<Integer>> pads = new ArrayList<>();
    private final List<Rule> rules = new ArrayList<>();
    private final List<Yes> yeses = new ArrayList<>();
    private final List<int[]> folds = new ArrayList<>();
    private final List<Pair> pairs = new ArrayList<>();
    private final List<Term> terms = new ArrayList<>();
    private final List<Edition> editions = new ArrayList<>();
    private int firm = 0;

    Model() {
        for (int i = 0; i < 6; i++) {
            hands.add(new TreeSet<>());
            pads.add(new ArrayList<>());
        }
    }

    // ---- sets and books

    /** What no call does: see Gaps. */
    void takeAway(int hand, int change) {
        hands.get(hand).remove(Integer.valueOf(change));
    }

    private boolean noHand(int hand) {
        return hand < 0 || hand > 5;
    }

    private boolean noChange(int c) {
        return c < 0 || c >= changes.size();
    }

    private boolean noPiece(int p) {
        return noChange(p) || changes.get(p).kind != 0;
    }

    private boolean noTongue(int t) {
        return t != 1 && t != 2;
    }

    private boolean noWord(int w) {
        return w < 1 || w > 99;
    }

    private TreeSet<Integer> set(int source) {
        if (source >= 0 && source <= 5) return hands.get(source);
        if (source >= 10 && source < 10 + states.size()) return states.get(source - 10);
        return null;
    }

    private List<Change> inOrder(TreeSet<Integer> set) {
        List<Change> list = new ArrayList<>();
        for (int c : set) list.add(changes.get(c));
        list.sort(Comparator.comparingInt(Change::count).thenComparingInt(Change::hand));
        return list;
    }

    private Worked book(int source) {
        return work(inOrder(set(source)));
    }

    private Worked work(List<Change> order) {
        Worked b = new Worked();
        b.root.number = -1;
        for (Change c : order) {
            b.order.add(c);
            b.came.put(c.number, apply(b, c));
        }
        return b;
    }

    private void place(Piece p, Piece part, int behind) {
        p.around = part;
        int at = part.inside.size();
        if (behind == -1) at = 0;
        for (int i = 0; i < part.inside.size(); i++) if (part.inside.get(i).number == behind) at = i + 1;
        part.inside.add(at, p);
    }

    private int apply(Worked b, Change c) {
        if (c.kind == 0) {
            if (c.target != -1 && !b.there.containsKey(c.target)) return 1;
            Piece p = new Piece();
            p.number = c.number;
            p.sort = c.sort;
            p.high = c.high;
            place(p, c.target == -1 ? b.root : b.there.get(c.target), c.behind);
            b.there.put(c.number, p);
            return 0;
        }
        Piece p = b.there.get(c.piece);
        if (p == null) return 1;
        if (c.kind == 1) p.struck = true;
        if (c.kind == 6) p.struck = false;
        if (c.kind == 4) p.note = c.target;
        if (c.kind == 5) p.tie = c.target;
        if (c.kind == 3) {
            p.words = told(p.words, c);
            if (firm == 0) p.struck = false;
        }
        if (c.kind == 2) {
            if (c.target != -1 && !b.there.containsKey(c.target)) return 1;
            Piece part = c.target == -1 ? b.root : b.there.get(c.target);
            if (part.isIn(p)) return 2;
            p.around.inside.remove(p);
            place(p, part, c.behind);
            if (firm == 0) p.struck = false;
        }
        return 0;
    }

    private List<Spoken> told(List<Spoken> was, Change c) {
        List<Integer> now = new ArrayList<>(c.words);
        List<Spoken> left = new ArrayList<>(was);
        List<Spoken> head = new ArrayList<>();
        List<Spoken> tail = new ArrayList<>();
        while (!left.isEmpty() && !now.isEmpty() && left.get(0).word == now.get(0)) {
            head.add(left.remove(0));
            now.remove(0);
        }
        while (!left.isEmpty() && !now.isEmpty()
                && left.get(left.size() - 1).word == now.get(now.size() - 1)) {
            tail.add(0, left.remove(left.size() - 1));
            now.remove(now.size() - 1);
        }
        for (int w : now) head.add(new Spoken(w, c.number));
        head.addAll(tail);
        return head;
    }

    private boolean hasSay(Worked b, Change c) {
        if (!b.came.containsKey(c.number)) return false;
        boolean about = b.came.get(c.number) == 0;
        if (c.kind == 0) return b.there.containsKey(c.number) && !b.there.get(c.number).struck;
        if (c.kind == 6 || !about) return false;
        Change latest = null;
        for (Change d : b.order) {
            if (d.piece != c.piece || d.kind == 0) continue;
            boolean its = b.came.get(d.number) == 0;
            if (c.kind == 1) {
                if (d.kind == 1 || d.kind == 6 || (firm == 0 && its && (d.kind == 2 || d.kind == 3))) latest = d;
            } else if (d.kind == c.kind && its) {
                latest = d;
            }
        }
        return latest == c;
    }

    private int made(int hand, int kind, int piece, int target, int behind, int sort, int high, List<Integer> words) {
        int count = 1;
        for (int c : hands.get(hand)) count = Math.max(count, changes.get(c).count + 1);
        int n = changes.size();
        changes.add(new Change(n, kind, hand, count, kind == 0 ? n : piece, target, behind, sort, high,
            words == null ? null : List.copyOf(words)));
        hands.get(hand).add(n);
        return n;
    }

    private boolean isFull() {
        return changes.size() >= 60;
    }

    // ---- 1 changes

    int word(int hand, int w) {
        if (noHand(hand)) return UNKNOWN;
        if (noWord(w)) return OUTSIDE;
        if (pads.get(hand).size() == 8) return FULL;
        pads.get(hand).add(w);
        return pads.get(hand).size();
    }

    int put(int hand, int sort, int under, int behind, int high) {
        if (noHand(hand)) return UNKNOWN;
        if (sort < 0 || sort > 2 || (sort == 2 && (high < 1 || high > 9))) return OUTSIDE;
        if (isFull()) return FULL;
        Worked b = book(hand);
        if (b.part(under) == null || (behind != -1 && !b.there.containsKey(behind))) return NO;
        return made(hand, 0, 0, under, behind, sort, sort == 2 ? high : 0, null);
    }

    int strike(int hand, int piece) {
        if (noHand(hand)) return UNKNOWN;
        if (isFull()) return FULL;
        return book(hand).there.containsKey(piece) ? made(hand, 1, piece, NONE, NONE, NONE, NONE, null) : NO;
    }

    int move(int hand, int piece, int under, int behind) {
        if (noHand(hand)) return UNKNOWN;
        if (isFull()) return FULL;
        Worked b = book(hand);
        Piece p = b.there.get(piece);
        Piece part = b.part(under);
        if (p == null || part == null || part.isIn(p) || behind == piece) return NO;
        if (behind != -1 && !b.there.containsKey(behind)) return NO;
        return made(hand, 2, piece, under, behind, NONE, NONE, null);
    }

    int words(int hand, int piece) {
        if (noHand(hand)) return UNKNOWN;
        if (isFull()) return FULL;
        if (book(hand).sentence(piece) == null) return NO;
        List<Integer> pad = pads.get(hand);
        int c = made(hand, 3, piece, pad.size(), NONE, NONE, NONE, pad);
        pad.clear();
        return c;
    }

    int note(int hand, int piece, int lines) {
        if (noHand(hand)) return UNKNOWN;
        if (lines < 0 || lines > 3) return OUTSIDE;
        if (isFull()) return FULL;
        return book(hand).sentence(piece) == null ? NO : made(hand, 4, piece, lines, NONE, NONE, NONE, null);
    }

    int tie(int hand, int piece, int to) {
        if (noHand(hand)) return UNKNOWN;
        if (isFull()) return FULL;
        Worked b = book(hand);
        if (b.sentence(piece) == null || (to != -1 && !b.there.containsKey(to))) return NO;
        return made(hand, 5, piece, to, NONE, NONE, NONE, null);
    }

    int back(int hand, int change) {
        if (noHand(hand) || !hands.get(hand).contains(change)) return UNKNOWN;
        if (isFull()) return FULL;
        Change c = changes.get(change);
        Worked b = book(hand);
        if (!hasSay(b, c)) return NO;
        if (c.kind < 2) return made(hand, c.kind == 0 ? 1 : 6, c.piece, NONE, NONE, NONE, NONE, null);
        Worked then = work(b.order.subList(0, b.order.indexOf(c)));
        return as(then, hand, c.kind, c.piece);
    }

    private int as(Worked b, int hand, int kind, int piece) {
        Piece p = b.there.get(piece);
        if (kind == 2) return made(hand, 2, piece, p.around.number, b.ahead(p), NONE, NONE, null);
        if (kind == 3) return made(hand, 3, piece, p.words.size(), NONE, NONE, NONE, p.row());
        return made(hand, kind, piece, kind == 4 ? p.note : p.tie, NONE, NONE, NONE, null);
    }

    int give(int from, int to, int n) {
        if (noHand(from) || noHand(to)) return UNKNOWN;
        if (n < 1 || n > 60) return OUTSIDE;
        TreeSet<Integer> missing = new TreeSet<>(hands.get(from));
        missing.removeAll(hands.get(to));
        List<Change> list = inOrder(missing);
        List<Change> given = list.subList(0, Math.min(n, list.size()));
        for (Change c : given) hands.get(to).add(c.number);
        return given.size();
    }

    int keep(int hand) {
        if (noHand(hand)) return UNKNOWN;
        if (states.size() == 8) return FULL;
        states.add(new TreeSet<>(hands.get(hand)));
        return 9 + states.size();
    }

    int firm(int v) {
        if (v < 0 || v > 1) return OUTSIDE;
        int was = firm;
        firm = v;
        return was;
    }

    int change(int i, int what) {
        if (noChange(i)) return LOST - 1;
        Change c = changes.get(i);
        int[] all = {c.kind, c.hand, c.count, c.piece, c.target, c.behind, c.sort, c.high};
        return what < 0 || what > 7 ? LOST - 2 : all[what];
    }

    int came(int source, int change) {
        if (set(source) == null || noChange(change)) return UNKNOWN;
        return book(source).came.getOrDefault(change, NONE);
    }

    int say(int source, int change) {
        if (set(source) == null || noChange(change)) return UNKNOWN;
        return hasSay(book(source), changes.get(change)) ? 1 : 0;
    }

    // ---- 2 books

    private int ith(List<Integer> list, int i) {
        if (i == -1) return list.size();
        return i >= 0 && i < list.size() ? list.get(i) : NONE;
    }

    private List<Integer> numbers(List<Piece> list) {
        return list.stream().map(p -> p.number).toList();
    }

    int seen(int source, int i) {
        return set(source) == null ? UNKNOWN : ith(numbers(book(source).seen()), i);
    }

    private int depth(Piece p) {
        return p.around.number == -1 ? 0 : 1 + depth(p.around);
    }

    int piece(int source, int piece, int what) {
        if (set(source) == null || noPiece(piece)) return LOST - 1;
        if (what < 0 || what > 9) return LOST - 2;
        Worked b = book(source);
        Piece p = b.there.get(piece);
        if (what == 0) return p == null ? 0 : 1;
        if (p == null) return LOST - 3;
        int[] all = {1, p.struck ? 1 : 0, b.isSeen(piece) ? 1 : 0, p.around.number, b.ahead(p), p.inside.size(),
            p.words.size(), p.note, p.tie, depth(p)};
        return all[what];
    }

    int at(int source, int piece, int i, int what) {
        if (set(source) == null || noPiece(piece)) return LOST - 1;
        Piece p = book(source).there.get(piece);
        if (p == null || i < 0 || i >= p.words.size()) return LOST - 1;
        if (what < 0 || what > 1) return LOST - 2;
        return what == 0 ? p.words.get(i).word : p.words.get(i).who;
    }

    private boolean alike(int a, int b) {
        TreeSet<Integer> reached = new TreeSet<>(List.of(a));
        for (int round = 0; round < 9; round++) {
            for (int[] f : folds) {
                if (reached.contains(f[0]) || reached.contains(f[1])) {
                    reached.add(f[0]);
                    reached.add(f[1]);
                }
            }
        }
        return reached.contains(b);
    }

    private boolean alike(List<Integer> a, List<Integer> b) {
        if (a.size() != b.size()) return false;
        for (int i = 0; i < a.size(); i++) if (!alike(a.get(i), b.get(i))) return false;
        return true;
    }

    int seek(int source, int hand, int i) {
        if (set(source) == null || noHand(hand)) return UNKNOWN;
        List<Integer> pad = pads.get(hand);
        if (pad.isEmpty()) return STATE;
        List<Integer> places = new ArrayList<>();
        for (Piece p : book(source).seen()) {
            for (int k = 0; k + pad.size() <= p.words.size(); k++) {
                if (alike(pad, p.row().subList(k, k + pad.size()))) places.add(10 * p.number + k);
            }
        }
        return ith(places, i);
    }

    long digest(int source) {
        if (set(source) == null) return LOST - 1;
        long h = 251;
        for (Piece p : book(source).seen()) {
            h = 31 * (31 * h + p.number) + depth(p);
            for (int w : p.row()) h = 31 * h + w;
        }
        return h;
    }

    // ---- 3 clashes

    private boolean any(TreeSet<Integer> set, int piece, int... kinds) {
        for (int c : set) {
            for (int kind : kinds) if (changes.get(c).piece == piece && changes.get(c).kind == kind) return true;
        }
        return false;
    }

    int clash(int a, int b, int i) {
        if (set(a) == null || set(b) == null) return UNKNOWN;
        TreeSet<Integer> x = new TreeSet<>(set(a));
        TreeSet<Integer> y = new TreeSet<>(set(b));
        x.removeAll(set(b));
        y.removeAll(set(a));
        List<Integer> list = new ArrayList<>();
        for (int p = 0; p < changes.size(); p++) {
            for (int kind = 0; kind < 4; kind++) if (any(x, p, kind + 2) && any(y, p, kind + 2)) list.add(10 * p + kind);
            if ((any(x, p, 1) && any(y, p, 2, 3)) || (any(y, p, 1) && any(x, p, 2, 3))) list.add(10 * p + 4);
        }
        return ith(list, i);
    }

    int settle(int hand, int piece, int kind, int source) {
        if (noHand(hand) || set(source) == null) return UNKNOWN;
        if (kind < 0 || kind > 4) return OUTSIDE;
        if (isFull()) return FULL;
        Worked mine = book(hand);
        Worked its = book(source);
        Piece p = mine.there.get(piece);
        Piece q = its.there.get(piece);
        if (p == null || q == null) return NO;
        if (kind == 4) return made(hand, q.struck ? 1 : 6, piece, NONE, NONE, NONE, NONE, null);
        if (kind == 0) {
            Piece part = mine.part(q.around.number);
            if (part == null || part.isIn(p)) return NO;
        } else if (p.sort != 1) {
            return NO;
        }
        return as(its, hand, kind + 2, piece);
    }

    // ---- 4 yes

    int rule(int hand, int piece) {
        if (noHand(hand) || (piece != -1 && noPiece(piece))) return UNKNOWN;
        if (rules.size() == 6) return FULL;
        rules.add(new Rule(hand, piece));
        return rules.size();
    }

    int yes(int hand, int piece) {
        if (noHand(hand)) return UNKNOWN;
        if (yeses.size() == 20) return FULL;
        Worked b = book(hand);
        if (piece != -1 && !b.isSeen(piece)) return NO;
        yeses.add(new Yes(hand, piece, b.says(piece == -1 ? b.root : b.there.get(piece))));
        return yeses.size();
    }

    private boolean met(Rule rule, Worked b) {
        if (rule.piece != -1 && !b.isSeen(rule.piece)) return true;
        Piece p = rule.piece == -1 ? b.root : b.there.get(rule.piece);
        Boolean is = null;
        for (Yes yes : yeses) {
            Piece whole = yes.piece == -1 ? b.root : b.there.get(yes.piece);
            if (yes.hand == rule.hand && whole != null && p.isIn(whole)) is = alike(yes.covers, b.says(whole));
        }
        return is != null && is;
    }

    int open(int source) {
        return set(source) == null ? UNKNOWN : open(book(source));
    }

    private int open(Worked b) {
        int bits = 0;
        for (int r = 0; r < rules.size(); r++) if (!met(rules.get(r), b)) bits += 1 << r;
        return bits;
    }

    int fold(int a, int b) {
        if (noWord(a) || noWord(b) || a == b) return OUTSIDE;
        if (folds.size() == 8) return FULL;
        folds.add(new int[] {a, b});
        return folds.size();
    }

    // ---- 5 tongues

    int lead(int tongue, int source, int piece, int hand) {
        if (noTongue(tongue) || set(source) == null || noHand(hand)) return UNKNOWN;
        if (pairs.size() == 24) return FULL;
        Piece p = book(source).sentence(piece);
        if (p == null || p.words.isEmpty() || pads.get(hand).isEmpty()) return NO;
        pairs.add(new Pair(tongue, piece, p.row(), List.copyOf(pads.get(hand))));
        pads.get(hand).clear();
        return pairs.size() - 1;
    }

    private Pair led(int tongue, int piece) {
        Pair latest = null;
        for (Pair pair : pairs) if (pair.tongue == tongue && pair.piece == piece) latest = pair;
        return latest;
    }

    private boolean isStale(int tongue, Piece p) {
        if (p.words.isEmpty()) return false;
        Pair pair = led(tongue, p.number);
        return pair == null || !alike(pair.own, p.row());
    }

    int stale(int tongue, int source, int i) {
        if (noTongue(tongue) || set(source) == null) return UNKNOWN;
        return ith(numbers(book(source).seen().stream().filter(p -> isStale(tongue, p)).toList()), i);
    }

    private int cost(List<Integer> a, List<Integer> b) {
        int[][] common = new int[a.size() + 1][b.size() + 1];
        for (int i = 1; i <= a.size(); i++) {
            for (int j = 1; j <= b.size(); j++) {
                common[i][j] = alike(a.get(i - 1), b.get(j - 1)) ? common[i - 1][j - 1] + 1
                    : Math.max(common[i - 1][j], common[i][j - 1]);
            }
        }
        return a.size() + b.size() - 2 * common[a.size()][b.size()];
    }

    int offer(int tongue, int source, int piece, int what) {
        if (noTongue(tongue) || set(source) == null) return UNKNOWN;
        Piece p = book(source).sentence(piece);
        if (p == null) return UNKNOWN;
        if (what < 0 || what > 3) return OUTSIDE;
        Map<Pair, Integer> costs = new LinkedHashMap<>();
        int best = -1;
        for (int k = 0; k < pairs.size(); k++) {
            if (pairs.get(k).tongue != tongue) continue;
            if (best < 0 || cost(pairs.get(k).own, p.row()) < cost(pairs.get(best).own, p.row())) best = k;
        }
        if (best < 0) return NONE;
        Pair pair = pairs.get(best);
        return new int[] {best, cost(pair.own, p.row()), pair.piece, pair.led.size()}[what];
    }

    int pair(int k, int side, int i) {
        if (k < 0 || k >= pairs.size()) return UNKNOWN;
        if (side < 0 || side > 1) return OUTSIDE;
        List<Integer> row = side == 0 ? pairs.get(k).own : pairs.get(k).led;
        return i < 0 || i >= row.size() ? NONE : row.get(i);
    }

    int term(int tongue, int w, int v) {
        if (noTongue(tongue)) return UNKNOWN;
        if (noWord(w) || noWord(v)) return OUTSIDE;
        if (terms.size() == 6) return FULL;
        terms.add(new Term(tongue, w, v));
        return terms.size();
    }

    private long often(List<Integer> row, int w) {
        return row.stream().filter(v -> v == w).count();
    }

    private boolean isUnlike(int tongue, Piece p) {
        Pair pair = led(tongue, p.number);
        if (p.words.isEmpty() || pair == null || isStale(tongue, p)) return false;
        return terms.stream().anyMatch(t -> t.tongue == tongue && often(pair.own, t.w) != often(pair.led, t.v));
    }

    int unlike(int tongue, int source, int i) {
        if (noTongue(tongue) || set(source) == null) return UNKNOWN;
        return ith(numbers(book(source).seen().stream().filter(p -> isUnlike(tongue, p)).toList()), i);
    }

    // ---- 6 editions

    final class Laid {
        final Worked b;
        final Edition e;
        Map<Integer, Integer> page = new TreeMap<>();
        Map<Integer, List<int[]>> lines = new TreeMap<>();
        int rounds = 0, round = 1, all, squares, left, inAll;

        Laid(Edition e, TreeSet<Integer> set) {
            this.e = e;
            this.b = work(inOrder(set));
            Map<Integer, Integer> before = null;
            while (rounds < 10) {
                before = rounds == 0 ? null : page;
                lay(before);
                rounds++;
                if (page.equals(before)) {
                    round = 0;
                    break;
                }
            }
        }

        List<Integer> said(Piece p) {
            if (e.tongue == 0 || p.words.isEmpty() || led(e.tongue, p.number) == null || isStale(e.tongue, p)) {
                return p.row();
            }
            return led(e.tongue, p.number).led;
        }

        /** Which PIECE's page is told, or null. */
        Piece tied(Piece p) {
            return b.isSeen(p.tie) ? b.there.get(p.tie) : null;
        }

        int number(int piece) {
            Piece to = tied(b.there.get(piece));
            return to == null ? NONE : page.get(to.number);
        }

        private int at, used;

        private int take(int k) {
            if (used + k > e.h) {
                left += e.h - used;
                at++;
                used = 0;
            }
            used += k;
            inAll = at;
            return at;
        }

        private void lay(Map<Integer, Integer> before) {
            page = new TreeMap<>();
            lines = new TreeMap<>();
            all = squares = left = inAll = used = 0;
            at = 1;
            for (Piece p : b.seen()) {
                if (p.sort != 1) {
                    page.put(p.number, take(p.sort == 2 ? p.high : 1));
                    continue;
                }
                List<Integer> wide = new ArrayList<>();
                for (int w : said(p)) wide.add(w % 7 == 0 ? 1 : 1 + w % 7);
                if (tied(p) != null) {
                    wide.add(before == null ? 1 : Integer.toString(before.get(tied(p).number)).length());
                }
                int[] counts = broken(wide);
                List<int[]> its = new ArrayList<>();
                page.put(p.number, used == e.h ? at + 1 : at);
                for (int i = 0; i < counts.length; i++) {
                    its.add(new int[] {take(i + 1 == counts.length ? 1 + p.note : 1), counts[i]});
                    if (i == 0) page.put(p.number, its.get(0)[0]);
                }
                lines.put(p.number, its);
                all += counts.length;
            }
        }

        /** Of all ways to break a row the best one; adds its squares. */
        private int[] broken(List<Integer> wide) {
            int n = wide.size();
            if (n == 0) return new int[0];
            int[] best = null;
            int least = 0;
            for (int bits = 0; bits < 1 << (n - 1); bits++) {
                List<Integer> counts = new ArrayList<>();
                int sum = 0;
                int from = 0;
                boolean fits = true;
                for (int i = 0; i < n; i++) {
                    if (i < n - 1 && (bits >> i & 1) == 0) continue;
                    int width = i - from;
                    for (int k = from; k <= i; k++) width += wide.get(k);
                    if (width > e.w) fits = false;
                    if (i < n - 1) sum += (e.w - width) * (e.w - width);
                    counts.add(i + 1 - from);
                    from = i + 1;
                }
                int[] way = counts.stream().mapToInt(c -> c).toArray();
                if (fits && (best == null || sum < least || (sum == least && Arrays.compare(way, best) > 0))) {
                    best = way;
                    least = sum;
                }
            }
            squares += least;
            return best;
        }
    }

    private boolean noEdition(int e) {
        return e < 0 || e >= editions.size();
    }

    private Laid laid(int e) {
        return new Laid(editions.get(e), editions.get(e).set);
    }

    int edition(int source, int tongue, int w, int h) {
        if (set(source) == null || tongue < 0 || tongue > 2) return UNKNOWN;
        if (w < 10 || w > 60 || h < 10 || h > 20) return OUTSIDE;
        if (editions.size() == 6) return FULL;
        editions.add(new Edition(new TreeSet<>(set(source)), tongue, w, h));
        return editions.size() - 1;
    }

    int pages(int edition, int what) {
        if (noEdition(edition)) return UNKNOWN;
        if (what < 0 || what > 5) return OUTSIDE;
        Laid l = laid(edition);
        return new int[] {l.inAll, l.rounds, l.round, l.all, l.squares, l.left}[what];
    }

    int onPage(int edition, int piece, int what) {
        if (noEdition(edition)) return UNKNOWN;
        Laid l = laid(edition);
        if (!l.b.isSeen(piece)) return UNKNOWN;
        if (what < 0 || what > 3) return OUTSIDE;
        Piece p = l.b.there.get(piece);
        List<int[]> its = l.lines.getOrDefault(piece, List.of());
        int lines = p.sort == 0 ? 1 : p.sort == 2 ? p.high : its.size();
        int page = l.page.get(piece);
        return new int[] {page, lines, its.isEmpty() ? page : its.get(its.size() - 1)[0], l.number(piece)}[what];
    }

    int line(int edition, int piece, int i) {
        if (noEdition(edition)) return UNKNOWN;
        Laid l = laid(edition);
        if (!l.b.isSeen(piece)) return UNKNOWN;
        List<int[]> its = l.lines.getOrDefault(piece, List.of());
        return i < 0 || i >= its.size() ? NONE : its.get(i)[1];
    }

    int index(int edition, int w, int i) {
        if (noEdition(edition)) return UNKNOWN;
        if (noWord(w)) return OUTSIDE;
        Laid l = laid(edition);
        TreeSet<Integer> pages = new TreeSet<>();
        for (Piece p : l.b.seen()) {
            int k = 0;
            for (int[] line : l.lines.getOrDefault(p.number, List.of())) {
                for (int n = 0; n < line[1]; n++, k++) {
                    if (k < l.said(p).size() && l.said(p).get(k) == w) pages.add(line[0]);
                }
            }
        }
        return ith(new ArrayList<>(pages), i);
    }

    int reach(int edition, int source, int what) {
        if (noEdition(edition) || set(source) == null) return UNKNOWN;
        if (what < 0 || what > 4) return OUTSIDE;
        Laid a = laid(edition);
        Laid b = new Laid(editions.get(edition), set(source));
        int moved = 0;
        int said = 0;
        int ties = 0;
        int first = NONE;
        for (int p = 0; p < changes.size(); p++) {
            boolean here = a.b.isSeen(p);
            boolean there = b.b.isSeen(p);
            if (here && there) {
                Piece x = a.b.there.get(p);
                Piece y = b.b.there.get(p);
                if (x.sort == 1 && !a.said(x).equals(b.said(y))) said++;
                if (x.sort == 1 && a.number(p) != b.number(p)) ties++;
            }
            if (!here && !there) continue;
            if (here && there && a.page.get(p).equals(b.page.get(p))) continue;
            moved++;
            if (here && (first == NONE || a.page.get(p) < first)) first = a.page.get(p);
        }
        int unmet = Integer.bitCount(open(b.b) & ~open(a.b));
        return new int[] {moved, said, ties, first, unmet}[what];
    }

    int told(int what) {
        if (what >= 10 && what <= 15) return hands.get(what - 10).size();
        if (what >= 20 && what <= 25) return pads.get(what - 20).size();
        int[] all = {changes.size(), states.size(), rules.size(), yeses.size(), folds.size(), pairs.size(),
            terms.size(), editions.size(), firm};
        return what < 0 || what > 8 ? OUTSIDE : all[what];
    }
}

import java.math.BigInteger;
import java.util.ArrayList;
import java.util.Collections;
import java.util.Comparator;
import java.util.HashMap;
import java.util.HashSet;
import java.util.List;
import java.util.Map;
import java.util.Set;
import java.util.TreeMap;
import java.util.TreeSet;

/**
 * The document once more, in the slowest and plainest way: big fractions, sets and recursion. It
 * shares nothing with GlazierBench, so that a mistake in one shows up beside the other.
 */
final class PlainBench {
    private static final int BEYOND = -1;
    private static final int SIZE = -2;
    private static final int FULL = -3;
    private static final int NOTHING = -4;
    private static final int KIND = -5;
    private static final int SPENT = -6;
    private static final int NONE = -7;

    record Frac(BigInteger n, BigInteger d) implements Comparable<Frac> {
        static Frac of(BigInteger n, BigInteger d) {
            BigInteger g = n.gcd(d);
            if (d.signum() < 0) {
                g = g.negate();
            }
            return new Frac(n.divide(g), d.divide(g));
        }

        static Frac of(long n) {
            return of(BigInteger.valueOf(n), BigInteger.ONE);
        }

        Frac plus(Frac o) {
            return of(n.multiply(o.d).add(o.n.multiply(d)), d.multiply(o.d));
        }

        Frac minus(Frac o) {
            return of(n.multiply(o.d).subtract(o.n.multiply(d)), d.multiply(o.d));
        }

        Frac times(Frac o) {
            return of(n.multiply(o.n), d.multiply(o.d));
        }

        Frac over(Frac o) {
            return of(n.multiply(o.d), d.multiply(o.n));
        }

        int sign() {
            return n.signum();
        }

        BigInteger floor() {
            BigInteger[] parts = n.divideAndRemainder(d);
            return parts[1].signum() < 0 ? parts[0].subtract(BigInteger.ONE) : parts[0];
        }

        BigInteger ceil() {
            return new Frac(n.negate(), d).floor().negate();
        }

        @Override
        public int compareTo(Frac o) {
            return n.multiply(o.d).compareTo(o.n.multiply(d));
        }
    }

    record Pt(Frac x, Frac y) implements Comparable<Pt> {
        @Override
        public int compareTo(Pt o) {
            int c = y.compareTo(o.y);
            return c != 0 ? c : x.compareTo(o.x);
        }

        Pt minus(Pt o) {
            return new Pt(x.minus(o.x), y.minus(o.y));
        }

        Frac cross(Pt o) {
            return x.times(o.y).minus(y.times(o.x));
        }

        Frac dot(Pt o) {
            return x.times(o.x).plus(y.times(o.y));
        }
    }

    record Step(int from, int to) implements Comparable<Step> {
        @Override
        public int compareTo(Step o) {
            return from != o.from ? Integer.compare(from, o.from) : Integer.compare(to, o.to);
        }

        Step twin() {
            return new Step(to, from);
        }
    }

    /** The window with its leads, and what follows from these. */
    static final class Win {
        final int w;
        final int h;
        final List<int[]> leads;
        final List<Pt> joints = new ArrayList<>();
        final Set<Step> pieces = new TreeSet<>();
        final Set<Step> firm = new TreeSet<>();
        final List<List<Step>> panes = new ArrayList<>();
        final Map<Step, Integer> paneOf = new HashMap<>();

        Win(int w, int h, List<int[]> leads) {
            this.w = w;
            this.h = h;
            this.leads = leads;
            List<Pt[]> lines = new ArrayList<>();
            for (int[] l : leads) {
                lines.add(line(l[0], l[1], l[2], l[3]));
            }
            lines.add(line(w, h, 0, h));
            lines.add(line(0, h, 0, 0));
            lines.add(line(0, 0, w, 0));
            lines.add(line(w, 0, w, h));
            findJoints(lines);
            findPieces(lines);
            findFirm();
            findPanes();
        }

        private static Pt[] line(int x, int y, int u, int v) {
            return new Pt[] {new Pt(Frac.of(x), Frac.of(y)), new Pt(Frac.of(u), Frac.of(v))};
        }

        private void findJoints(List<Pt[]> lines) {
            TreeSet<Pt> points = new TreeSet<>();
            for (Pt[] l : lines) {
                points.add(l[0]);
                points.add(l[1]);
                for (Pt[] m : lines) {
                    Pt p = meeting(l, m);
                    if (p != null && isOn(p, l) && isOn(p, m)) {
                        points.add(p);
                    }
                }
            }
            joints.addAll(points);
        }

        /** Cramer's rule on a x + b y = c of both lines. */
        private static Pt meeting(Pt[] l, Pt[] m) {
            Frac a1 = l[1].y().minus(l[0].y());
            Frac b1 = l[0].x().minus(l[1].x());
            Frac c1 = a1.times(l[0].x()).plus(b1.times(l[0].y()));
            Frac a2 = m[1].y().minus(m[0].y());
            Frac b2 = m[0].x().minus(m[1].x());
            Frac c2 = a2.times(m[0].x()).plus(b2.times(m[0].y()));
            Frac det = a1.times(b2).minus(a2.times(b1));
            if (det.sign() == 0) {
                return null;
            }
            return new Pt(c1.times(b2).minus(c2.times(b1)).over(det), a1.times(c2).minus(a2.times(c1)).over(det));
        }

        static boolean isOn(Pt p, Pt[] l) {
            Pt toA = l[0].minus(p);
            Pt toB = l[1].minus(p);
            return toA.cross(toB).sign() == 0 && toA.dot(toB).sign() <= 0;
        }

        private void findPieces(List<Pt[]> lines) {
            for (Pt[] l : lines) {
                List<Integer> on = new ArrayList<>();
                for (int i = 0; i < joints.size(); i++) {
                    if (isOn(joints.get(i), l)) {
                        on.add(i);
                    }
                }
                Pt way = l[1].minus(l[0]);
                on.sort(Comparator.comparing(i -> joints.get(i).minus(l[0]).dot(way)));
                for (int k = 1; k < on.size(); k++) {
                    pieces.add(new Step(on.get(k - 1), on.get(k)));
                    pieces.add(new Step(on.get(k), on.get(k - 1)));
                }
            }
        }

        private boolean isOnSide(Step s) {
            Pt a = joints.get(s.from());
            Pt b = joints.get(s.to());
            Frac wide = Frac.of(w);
            Frac high = Frac.of(h);
            return a.x().sign() == 0 && b.x().sign() == 0 || a.y().sign() == 0 && b.y().sign() == 0
                || a.x().equals(wide) && b.x().equals(wide) || a.y().equals(high) && b.y().equals(high);
        }

        private void findFirm() {
            List<Step> queue = new ArrayList<>();
            for (Step s : pieces) {
                if (isOnSide(s)) {
                    queue.add(s);
                }
            }
            firm.addAll(queue);
            for (int i = 0; i < queue.size(); i++) {
                for (Step s : pieces) {
                    if ((s.from() == queue.get(i).to() || s.from() == queue.get(i).from()) && firm.add(s)) {
                        queue.add(s);
                        if (firm.add(s.twin())) {
                            queue.add(s.twin());
                        }
                    }
                }
            }
            while (true) {
                int[] ends = new int[joints.size()];
                for (Step s : firm) {
                    ends[s.from()]++;
                }
                if (!firm.removeIf(s -> ends[s.from()] == 1 || ends[s.to()] == 1)) {
                    return;
                }
            }
        }

        private Step after(Step s) {
            Pt b = joints.get(s.to());
            Pt way = joints.get(s.from()).minus(b);
            List<Integer> round = new ArrayList<>();
            for (Step t : firm) {
                if (t.from() == s.to()) {
                    round.add(t.to());
                }
            }
            // Counterclockwise from the way back; the last of these is the first one clockwise.
            round.sort((i, j) -> {
                Pt p = joints.get(i).minus(b);
                Pt q = joints.get(j).minus(b);
                int hp = half(way, p);
                int hq = half(way, q);
                return hp != hq ? Integer.compare(hp, hq) : -p.cross(q).sign();
            });
            return new Step(s.to(), round.get(round.size() - 1));
        }

        private static int half(Pt way, Pt p) {
            int c = way.cross(p).sign();
            if (c == 0) {
                return way.dot(p).sign() > 0 ? 0 : 2;
            }
            return c > 0 ? 1 : 3;
        }

        private void findPanes() {
            Set<Step> walked = new HashSet<>();
            for (Step s : firm) {
                if (walked.contains(s)) {
                    continue;
                }
                List<Step> walk = new ArrayList<>();
                Step t = s;
                do {
                    walk.add(t);
                    walked.add(t);
                    t = after(t);
                } while (!t.equals(s));
                if (doubleArea(walk).sign() > 0) {
                    int least = walk.indexOf(Collections.min(walk));
                    Collections.rotate(walk, -least);
                    panes.add(walk);
                }
            }
            panes.sort(Comparator.comparing(walk -> walk.get(0)));
            for (int p = 0; p < panes.size(); p++) {
                for (Step s : panes.get(p)) {
                    paneOf.put(s, p);
                }
            }
        }

        Frac doubleArea(List<Step> walk) {
            Frac sum = Frac.of(0);
            for (Step s : walk) {
                sum = sum.plus(joints.get(s.from()).cross(joints.get(s.to())));
            }
            return sum;
        }

        int touches(int p, int q) {
            int n = 0;
            for (Step s : firm) {
                if (s.from() < s.to()) {
                    Integer a = paneOf.get(s);
                    Integer b = paneOf.get(s.twin());
                    if (a != null && b != null && (a == p && b == q || a == q && b == p)) {
                        n++;
                    }
                }
            }
            return n;
        }

        int[] box(int p) {
            TreeSet<Frac> xs = new TreeSet<>();
            TreeSet<Frac> ys = new TreeSet<>();
            for (Step s : panes.get(p)) {
                xs.add(joints.get(s.from()).x());
                ys.add(joints.get(s.from()).y());
            }
            int left = xs.first().floor().intValueExact();
            int low = ys.first().floor().intValueExact();
            return new int[] {left, low, xs.last().ceil().intValueExact() - left, ys.last().ceil().intValueExact() - low};
        }

        int at(int x2, int y2) {
            Pt p = new Pt(Frac.of(x2).over(Frac.of(2)), Frac.of(y2).over(Frac.of(2)));
            for (Step s : firm) {
                if (isOn(p, new Pt[] {joints.get(s.from()), joints.get(s.to())})) {
                    return NONE;
                }
            }
            for (int i = 0; i < panes.size(); i++) {
                if (windings(panes.get(i), p) != 0) {
                    return i;
                }
            }
            throw new IllegalStateException("in no pane");
        }

        /** How often the walk goes round the point: crossings of the line straight up from it. */
        private int windings(List<Step> walk, Pt p) {
            int n = 0;
            for (Step s : walk) {
                Pt a = joints.get(s.from());
                Pt b = joints.get(s.to());
                boolean aLeft = a.x().compareTo(p.x()) < 0;
                boolean bLeft = b.x().compareTo(p.x()) < 0;
                if (aLeft != bLeft) {
                    Frac slope = b.y().minus(a.y()).over(b.x().minus(a.x()));
                    Frac y = a.y().plus(slope.times(p.x().minus(a.x())));
                    if (y.compareTo(p.y()) > 0) {
                        n += aLeft ? -1 : 1;
                    }
                }
            }
            return n;
        }

        Set<String> picture(int quarters, boolean over) {
            Set<String> shown = new HashSet<>();
            for (Pt p : joints) {
                shown.add(turned(p, quarters, over).toString());
            }
            for (Step s : pieces) {
                shown.add(turned(joints.get(s.from()), quarters, over) + " to " + turned(joints.get(s.to()), quarters, over));
            }
            return shown;
        }

        /** Turned round the window's middle, which is moved to 0, 0. */
        private Pt turned(Pt p, int quarters, boolean over) {
            Frac x = p.x().minus(Frac.of(w).over(Frac.of(2)));
            Frac y = p.y().minus(Frac.of(h).over(Frac.of(2)));
            for (int i = 0; i < quarters; i++) {
                Frac t = x;
                x = Frac.of(0).minus(y);
                y = t;
            }
            return new Pt(over ? Frac.of(0).minus(x) : x, y);
        }
    }

    private Win win;
    private int[] kind;
    private int[] allowed;
    private int[] colour;
    private Set<Integer> left = new TreeSet<>();
    private final List<Integer> chosen = new ArrayList<>();
    private final Win[] kept = new Win[4];
    private final int[][] rack = new int[4][];
    private final Map<Integer, Integer> answered = new TreeMap<>();

    private int f(int finding) {
        answered.merge(finding, 1, Integer::sum);
        return finding;
    }

    private void set(Win next) {
        win = next;
        int n = win.panes.size();
        kind = new int[n];
        allowed = new int[n];
        colour = new int[n];
        java.util.Arrays.fill(allowed, 255);
        java.util.Arrays.fill(colour, 8);
        left = new TreeSet<>();
        chosen.clear();
    }

    private boolean noPane(int p) {
        return p < 0 || p >= win.panes.size();
    }

    private boolean noJoint(int i) {
        return i < 0 || i >= win.joints.size();
    }

    int window(int w, int h) {
        if (w < 0 || h < 0) {
            return f(SIZE);
        }
        if (w == 0 || h == 0 || w > 12 || h > 12) {
            return f(BEYOND);
        }
        set(new Win(w, h, List.of()));
        return 1;
    }

    int lead(int x, int y, int u, int v) {
        if (win == null) {
            return f(NOTHING);
        }
        if (x < 0 || u < 0 || y < 0 || v < 0 || x > win.w || u > win.w || y > win.h || v > win.h) {
            return f(BEYOND);
        }
        if (x == u && y == v) {
            return f(SIZE);
        }
        if (win.leads.size() == 14) {
            return f(FULL);
        }
        List<int[]> more = new ArrayList<>(win.leads);
        more.add(new int[] {x, y, u, v});
        set(new Win(win.w, win.h, more));
        return more.size() - 1;
    }

    int undo() {
        if (win == null || win.leads.isEmpty()) {
            return f(NOTHING);
        }
        set(new Win(win.w, win.h, win.leads.subList(0, win.leads.size() - 1)));
        return win.leads.size();
    }

    int count(int what) {
        if (win == null) {
            return f(NOTHING);
        }
        return switch (what) {
            case 0 -> win.w;
            case 1 -> win.h;
            case 2 -> win.leads.size();
            case 3 -> win.joints.size();
            case 4 -> win.pieces.size() / 2;
            case 5 -> (win.pieces.size() - win.firm.size()) / 2;
            case 6 -> win.panes.size();
            case 7 -> chosen.size();
            default -> f(BEYOND);
        };
    }

    int joint(int i, int what) {
        if (win == null) {
            return f(NOTHING);
        }
        if (noJoint(i) || what < 0 || what > 5) {
            return f(BEYOND);
        }
        Pt p = win.joints.get(i);
        return switch (what) {
            case 0 -> p.x().n().intValueExact();
            case 1 -> p.x().d().intValueExact();
            case 2 -> p.y().n().intValueExact();
            case 3 -> p.y().d().intValueExact();
            case 4 -> (int) win.pieces.stream().filter(s -> s.from() == i).count();
            default -> (int) win.firm.stream().filter(s -> s.from() == i).count();
        };
    }

    int piece(int i, int j) {
        if (win == null) {
            return f(NOTHING);
        }
        if (noJoint(i) || noJoint(j)) {
            return f(BEYOND);
        }
        Step s = new Step(i, j);
        return win.firm.contains(s) ? 2 : win.pieces.contains(s) ? 1 : 0;
    }

    int corner(int p, int k) {
        if (win == null) {
            return f(NOTHING);
        }
        if (noPane(p) || k < 0 || k >= win.panes.get(p).size()) {
            return f(BEYOND);
        }
        return win.panes.get(p).get(k).from();
    }

    int pane(int p, int what) {
        if (win == null) {
            return f(NOTHING);
        }
        if (noPane(p) || what < 0 || what > 9) {
            return f(BEYOND);
        }
        if (what == 8) {
            int n = 0;
            for (int q = 0; q < win.panes.size(); q++) {
                n += q == p ? 0 : win.touches(p, q);
            }
            return n;
        }
        return switch (what) {
            case 0 -> win.panes.get(p).size();
            case 5 -> kind[p];
            case 6 -> allowed[p];
            case 7 -> colour[p];
            case 9 -> win.touches(p, p);
            default -> win.box(p)[what - 1];
        };
    }

    long area(int p) {
        if (win == null) {
            return f(NOTHING);
        }
        if (noPane(p)) {
            return f(BEYOND);
        }
        return win.doubleArea(win.panes.get(p)).times(Frac.of(500000)).floor().longValueExact();
    }

    int touch(int p, int q) {
        if (win == null) {
            return f(NOTHING);
        }
        return noPane(p) || noPane(q) ? f(BEYOND) : win.touches(p, q);
    }

    int at(int x, int y) {
        if (win == null) {
            return f(NOTHING);
        }
        if (x <= 0 || y <= 0 || x >= 2 * win.w || y >= 2 * win.h) {
            return f(BEYOND);
        }
        int p = win.at(x, y);
        return p < 0 ? f(p) : p;
    }

    int glass(int p, int newKind, int told) {
        if (win == null) {
            return f(NOTHING);
        }
        if (noPane(p)) {
            return f(BEYOND);
        }
        if (newKind < 0 || newKind > 2) {
            return f(KIND);
        }
        kind[p] = newKind;
        allowed[p] = newKind == 0 ? 255 : told & 255;
        colour[p] = 8;
        return 1;
    }

    /** One run of THE SEARCH: 1 found, 0 not, -6 spent. */
    private final class Search {
        private final List<Integer> over;
        private final int[] taken = new int[win.panes.size()];
        private final boolean[][] near = new boolean[win.panes.size()][win.panes.size()];
        private int tries;

        Search(List<Integer> over, int tries) {
            this.over = over;
            this.tries = tries;
            for (Step s : win.firm) {
                Integer p = win.paneOf.get(s);
                Integer q = win.paneOf.get(s.twin());
                if (p != null && q != null && !p.equals(q)) {
                    near[p][q] = true;
                }
            }
        }

        int run(int k) {
            if (k == over.size()) {
                return 1;
            }
            int p = over.get(k);
            for (int c = 0; c < 8; c++) {
                if ((allowed[p] & 1 << c) == 0) {
                    continue;
                }
                if (tries-- == 0) {
                    return SPENT;
                }
                boolean differs = true;
                for (int q : over.subList(0, k)) {
                    differs &= !near[p][q] || taken[q] != c;
                }
                if (differs) {
                    taken[p] = c;
                    int end = run(k + 1);
                    if (end != 0) {
                        return end;
                    }
                }
            }
            return 0;
        }
    }

    private List<Integer> allPanes() {
        List<Integer> all = new ArrayList<>();
        for (int p = 0; p < win.panes.size(); p++) {
            all.add(p);
        }
        return all;
    }

    int colours(int tries) {
        if (win == null) {
            return f(NOTHING);
        }
        if (tries < 0 || tries > 100000) {
            return f(BEYOND);
        }
        Search search = new Search(allPanes(), tries);
        int end = search.run(0);
        if (end == SPENT) {
            return f(SPENT);
        }
        for (int p = 0; p < colour.length; p++) {
            colour[p] = end == 1 ? search.taken[p] : 8;
        }
        return end;
    }

    int lack(int tries) {
        if (win == null) {
            return f(NOTHING);
        }
        if (tries < 0 || tries > 20000) {
            return f(BEYOND);
        }
        List<Integer> stay = allPanes();
        int end = new Search(stay, tries).run(0);
        if (end != 0) {
            return f(end == 1 ? NONE : SPENT);
        }
        for (int p : allPanes()) {
            List<Integer> others = new ArrayList<>(stay);
            others.remove(Integer.valueOf(p));
            end = new Search(others, tries).run(0);
            if (end == SPENT) {
                return f(SPENT);
            }
            if (end == 0) {
                stay = others;
            }
        }
        left = new TreeSet<>(stay);
        return stay.size();
    }

    int bits(int i) {
        if (win == null) {
            return f(NOTHING);
        }
        if (i < 0 || i > 9) {
            return f(BEYOND);
        }
        int bits = 0;
        for (int p : left) {
            if (p / 30 == i) {
                bits += 1 << p % 30;
            }
        }
        return bits;
    }

    int pick(int p) {
        if (win == null) {
            return f(NOTHING);
        }
        if (noPane(p)) {
            return f(BEYOND);
        }
        if (chosen.size() == 6) {
            return f(FULL);
        }
        chosen.add(p);
        return chosen.size();
    }

    int unpick() {
        if (win == null) {
            return f(NOTHING);
        }
        int n = chosen.size();
        chosen.clear();
        return n;
    }

    /** Whether the boxes of a set can be cut from a part of a by b, by trying every cut there is. */
    private boolean cuts(int set, int a, int b, boolean turns, Map<Integer, Boolean> known) {
        if (set == 0) {
            return true;
        }
        int key = (set * 13 + a) * 13 + b;
        Boolean before = known.get(key);
        if (before != null) {
            return before;
        }
        boolean can = false;
        if (Integer.bitCount(set) == 1) {
            int p = chosen.get(Integer.numberOfTrailingZeros(set));
            int[] box = win.box(p);
            can = box[2] == a && box[3] == b || turns && kind[p] != 2 && box[3] == a && box[2] == b;
        }
        for (int part = set; part >= 0 && !can; part--) {
            if ((part & set) != part) {
                continue;
            }
            for (int x = 1; x < a && !can; x++) {
                can = cuts(part, x, b, turns, known) && cuts(set ^ part, a - x, b, turns, known);
            }
            for (int y = 1; y < b && !can; y++) {
                can = cuts(part, a, y, turns, known) && cuts(set ^ part, a, b - y, turns, known);
            }
        }
        known.put(key, can);
        return can;
    }

    private int sheetsFor(int set, int a, int b, boolean turns, Map<Integer, Boolean> known) {
        if (set == 0) {
            return 0;
        }
        int best = 99;
        int lowest = set & -set;
        for (int part = 1; part <= set; part++) {
            if ((part & set) == part && (part & lowest) != 0 && cuts(part, a, b, turns, known)) {
                best = Math.min(best, 1 + sheetsFor(set ^ part, a, b, turns, known));
            }
        }
        return best;
    }

    int sheets(int a, int b, boolean turns) {
        if (win == null) {
            return f(NOTHING);
        }
        if (a < 1 || b < 1 || a > 12 || b > 12) {
            return f(BEYOND);
        }
        int n = sheetsFor((1 << chosen.size()) - 1, a, b, turns, new HashMap<>());
        return n >= 99 ? f(NONE) : n;
    }

    int keep(int k) {
        if (win == null) {
            return f(NOTHING);
        }
        if (k < 0 || k > 3) {
            return f(BEYOND);
        }
        kept[k] = win;
        return 1;
    }

    int back(int k) {
        if (k < 0 || k > 3) {
            return f(BEYOND);
        }
        if (kept[k] == null) {
            return f(NOTHING);
        }
        set(kept[k]);
        return win.panes.size();
    }

    int alike(int k) {
        if (k < 0 || k > 3) {
            return f(BEYOND);
        }
        if (win == null || kept[k] == null) {
            return f(NOTHING);
        }
        Set<String> goal = kept[k].picture(0, false);
        int n = 0;
        for (int turning = 0; turning < 8; turning++) {
            boolean lies = turning % 2 == 1;
            boolean fits = (lies ? win.h : win.w) == kept[k].w && (lies ? win.w : win.h) == kept[k].h;
            if (fits && win.picture(turning % 4, turning >= 4).equals(goal)) {
                n++;
            }
        }
        return n;
    }

    int rack(int k, int p) {
        if (k < 0 || k > 3) {
            return f(BEYOND);
        }
        if (p == -1) {
            rack[k] = null;
            return 1;
        }
        if (win == null) {
            return f(NOTHING);
        }
        if (noPane(p)) {
            return f(BEYOND);
        }
        rack[k] = new int[] {kind[p], allowed[p]};
        return 1;
    }

    int as(int k, int asked) {
        if (k < 0 || k > 3 || asked < 0 || asked > 2) {
            return f(BEYOND);
        }
        if (rack[k] == null) {
            return f(NOTHING);
        }
        boolean is = asked == 0 || asked == 1 && rack[k][0] != 0 || rack[k][0] == 2;
        return is ? rack[k][1] : f(KIND);
    }

    int found(int finding) {
        if (finding < -7 || finding > -1) {
            return f(BEYOND);
        }
        return answered.getOrDefault(finding, 0);
    }
}

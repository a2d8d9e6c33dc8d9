import java.util.ArrayList;
import java.util.List;
import java.util.Random;

/** Runs of calls, the same ones on every machine, that GlazierBench and PlainBench must answer alike. */
public final class RandomRunsTest {
    private static final int RUNS = 300;
    private static final int CALLS = 512;

    private final Random random;
    private final GlazierBench bench = new GlazierBench();
    private final PlainBench plain = new PlainBench();
    private final List<String> told = new ArrayList<>();
    private final int style;
    /** The end of the latest lead, and an earlier one: leads drawn on from there make rings on a stalk. */
    private int chainX = 0;
    private int chainY = 0;
    private int ringX = 0;
    private int ringY = 0;
    private int wrong = 0;

    private RandomRunsTest(long seed) {
        random = new Random(seed);
        style = random.nextInt(6);
    }

    public static void main(String[] args) {
        int runs = args.length > 0 ? Integer.parseInt(args[0]) : RUNS;
        int firstSeed = args.length > 1 ? Integer.parseInt(args[1]) : 1;
        int wrong = 0;
        for (int seed = firstSeed; seed < firstSeed + runs && wrong < 5; seed++) {
            RandomRunsTest run = new RandomRunsTest(seed);
            run.go();
            if (run.wrong > 0) {
                System.out.println("seed " + seed + ":");
                run.told.forEach(line -> System.out.println("  " + line));
                wrong++;
            }
        }
        System.out.println(wrong == 0 ? "all random runs are alike" : wrong + " random runs differ");
        System.exit(wrong == 0 ? 0 : 1);
    }

    private void go() {
        if (random.nextInt(5) == 0) {
            drawThicket();
        }
        for (int i = 0; i < CALLS && wrong == 0; i++) {
            call();
        }
    }

    private void due(String call, long got, long want) {
        if (got != want) {
            wrong++;
        }
        told.add(call + " answered " + got + (got == want ? "" : ", due is " + want));
    }

    private boolean rarely() {
        return random.nextInt(25) == 0;
    }

    private int wild() {
        int[] some = {-1, -2, 4, 8, 10, 13, 14, 99, 128, -128, Integer.MAX_VALUE, Integer.MIN_VALUE};
        return some[random.nextInt(some.length)];
    }

    private int below(int n) {
        return rarely() ? wild() : random.nextInt(Math.max(1, n));
    }

    /** What the plain one knows, without its being counted as an act that answers a finding. */
    private int size(int what) {
        int n = bench.count(what);
        int m = plain.count(what);
        if (n != m) {
            due("count(" + what + ")", n, m);
        }
        return Math.max(0, n);
    }

    private void call() {
        int n = random.nextInt(100);
        if (told.isEmpty() && !rarely() || n == 0 && random.nextBoolean()) {
            newWindow();
        } else if (n < 12) {
            newLead();
        } else if (n < 14) {
            due("undo()", bench.undo(), plain.undo());
        } else if (n < 52) {
            askShape();
        } else if (n < 74) {
            askGlass();
        } else if (n < 85) {
            askCutting();
        } else if (n < 95) {
            askPlaces();
        } else {
            int f = rarely() ? wild() : -1 - random.nextInt(7);
            due("found(" + f + ")", bench.found(f), plain.found(f));
        }
    }

    private void newWindow() {
        int w = rarely() ? wild() : style < 3 ? 8 + random.nextInt(5) : 1 + random.nextInt(12);
        int h = rarely() ? wild() : style == 1 || style == 4 ? w : 1 + random.nextInt(12);
        due("window(" + w + ", " + h + ")", bench.window(w, h), plain.window(w, h));
    }

    private void newLead() {
        int w = size(0);
        int h = size(1);
        int x = below(w + 1);
        int y = below(h + 1);
        int u = below(w + 1);
        int v = below(h + 1);
        int shape = random.nextInt(10);
        if (style == 0 && shape < 8) {
            x = 0;
            u = w;
        } else if (style == 1 && shape < 4) {
            y = 0;
            v = h;
        } else if (style == 2 && shape < 5 || style == 3) {
            boolean level = random.nextBoolean();
            u = level ? u : x;
            v = level ? y : v;
        } else if (style == 5 && shape < 9) {
            x = chainX;
            y = chainY;
            u = shape < 3 ? ringX : Math.max(0, Math.min(w, x + random.nextInt(7) - 3));
            v = shape < 3 ? ringY : Math.max(0, Math.min(h, y + random.nextInt(7) - 3));
        } else if (style == 4 && shape < 6) {
            int far = random.nextInt(7) - 3;
            u = x + far;
            v = random.nextBoolean() ? y + far : y - far;
        }
        due("lead(" + x + ", " + y + ", " + u + ", " + v + ")", bench.lead(x, y, u, v), plain.lead(x, y, u, v));
        if (random.nextInt(4) == 0) {
            ringX = u;
            ringY = v;
        }
        chainX = u;
        chainY = v;
    }

    private void askShape() {
        int joint = below(size(3));
        int other = below(size(3));
        int p = below(size(6));
        int q = below(size(6));
        int what = below(10);
        switch (random.nextInt(9)) {
            case 0 -> due("count(" + what + ")", bench.count(what), plain.count(what));
            case 1 -> due("joint(" + joint + ", " + what + ")", bench.joint(joint, what), plain.joint(joint, what));
            case 2 -> due("piece(" + joint + ", " + other + ")", bench.piece(joint, other), plain.piece(joint, other));
            case 3 -> due("corner(" + p + ", " + what + ")", bench.corner(p, what), plain.corner(p, what));
            case 4 -> due("pane(" + p + ", " + what + ")", bench.pane(p, what), plain.pane(p, what));
            case 5 -> due("area(" + p + ")", bench.area(p), plain.area(p));
            case 6 -> due("touch(" + p + ", " + q + ")", bench.touch(p, q), plain.touch(p, q));
            case 7 -> askPoint();
            default -> askAll();
        }
    }

    private void askPoint() {
        int x = below(2 * size(0) + 1);
        int y = below(2 * size(1) + 1);
        due("at(" + x + ", " + y + ")", bench.at(x, y), plain.at(x, y));
    }

    /** Of everything that there is at once, as a mistake may be in one place only. */
    private void askAll() {
        if (random.nextInt(5) != 0) {
            return;
        }
        for (int i = 0; i < size(3); i++) {
            for (int what = 0; what < 6; what++) {
                due("joint(" + i + ", " + what + ")", bench.joint(i, what), plain.joint(i, what));
            }
            for (int j = 0; j < size(3); j++) {
                due("piece(" + i + ", " + j + ")", bench.piece(i, j), plain.piece(i, j));
            }
        }
        for (int p = 0; p < size(6); p++) {
            due("area(" + p + ")", bench.area(p), plain.area(p));
            for (int what = 0; what < 10; what++) {
                due("pane(" + p + ", " + what + ")", bench.pane(p, what), plain.pane(p, what));
            }
            for (int k = 0; k < plain.pane(p, 0); k++) {
                due("corner(" + p + ", " + k + ")", bench.corner(p, k), plain.corner(p, k));
            }
        }
        for (int x = 1; x < 2 * size(0); x++) {
            for (int y = 1; y < 2 * size(1); y++) {
                due("at(" + x + ", " + y + ")", bench.at(x, y), plain.at(x, y));
            }
        }
    }

    private void askGlass() {
        int p = below(size(6));
        int kind = random.nextInt(10) == 0 ? wild() : random.nextInt(3);
        int allowed = random.nextInt(4) == 0 ? random.nextInt() : random.nextInt(style % 2 == 0 ? 4 : 8);
        int tries = rarely() ? 100000 + random.nextInt(2) : random.nextInt(3) == 0 ? random.nextInt(40) : random.nextInt(3000);
        int fewTries = rarely() ? 20000 + random.nextInt(2) : random.nextInt(3) == 0 ? random.nextInt(40) : random.nextInt(1000);
        int group = rarely() ? wild() : random.nextInt(5);
        switch (random.nextInt(12)) {
            case 0, 1, 2, 3 -> due("glass(" + p + ", " + kind + ", " + allowed + ")", bench.glass(p, kind, allowed), plain.glass(p, kind, allowed));
            case 4, 5 -> due("colours(" + tries + ")", bench.colours(tries), plain.colours(tries));
            case 6, 7 -> due("lack(" + fewTries + ")", bench.lack(fewTries), plain.lack(fewTries));
            case 8, 9 -> due("bits(" + group + ")", bench.bits(group), plain.bits(group));
            case 10 -> glassForAll();
            default -> due("pane(" + p + ", 7)", bench.pane(p, 7), plain.pane(p, 7));
        }
    }

    private void glassForAll() {
        int most = 1 << 2 + random.nextInt(3);
        for (int p = 0; p < size(6); p++) {
            int kind = 1 + random.nextInt(2);
            int allowed = 1 + random.nextInt(most - 1);
            due("glass(" + p + ", " + kind + ", " + allowed + ")", bench.glass(p, kind, allowed), plain.glass(p, kind, allowed));
        }
        int tries = random.nextInt(5000);
        due("colours(" + tries + ")", bench.colours(tries), plain.colours(tries));
        due("lack(" + tries + ")", bench.lack(tries), plain.lack(tries));
        for (int i = 0; i < 5; i++) {
            due("bits(" + i + ")", bench.bits(i), plain.bits(i));
        }
    }

    private void askCutting() {
        int p = below(size(6));
        int a = 1 + below(12);
        int b = 1 + below(12);
        boolean turns = random.nextBoolean();
        switch (random.nextInt(10)) {
            case 9 -> cutMany();
            case 0 -> due("unpick()", bench.unpick(), plain.unpick());
            case 1, 2, 3, 4, 5 -> due("pick(" + p + ")", bench.pick(p), plain.pick(p));
            default -> due("sheets(" + a + ", " + b + ", " + turns + ")", bench.sheets(a, b, turns), plain.sheets(a, b, turns));
        }
    }

    private void cutMany() {
        due("unpick()", bench.unpick(), plain.unpick());
        for (int i = random.nextInt(8); i > 0; i--) {
            int p = below(size(6));
            due("pick(" + p + ")", bench.pick(p), plain.pick(p));
        }
        for (int i = 0; i < 6; i++) {
            int a = 1 + random.nextInt(12);
            int b = 1 + random.nextInt(12);
            boolean turns = random.nextBoolean();
            due("sheets(" + a + ", " + b + ", " + turns + ")", bench.sheets(a, b, turns), plain.sheets(a, b, turns));
        }
    }

    private void askPlaces() {
        int k = below(4);
        int p = random.nextInt(4) == 0 ? -1 : below(size(6));
        int kind = rarely() ? wild() : random.nextInt(3);
        switch (random.nextInt(8)) {
            case 0 -> due("keep(" + k + ")", bench.keep(k), plain.keep(k));
            case 1 -> due("back(" + k + ")", bench.back(k), plain.back(k));
            case 2, 3 -> due("alike(" + k + ")", bench.alike(k), plain.alike(k));
            case 4 -> keepAndTurn(k & 3);
            case 5 -> due("rack(" + k + ", " + p + ")", bench.rack(k, p), plain.rack(k, p));
            default -> due("as(" + k + ", " + kind + ")", bench.as(k, kind), plain.as(k, kind));
        }
    }

    /** A few leads are drawn and kept, then the same ones again, turned, now and then with one more. */
    private void keepAndTurn(int k) {
        if (random.nextInt(4) != 0) {
            return;
        }
        int w = 1 + random.nextInt(6);
        int h = random.nextBoolean() ? w : 1 + random.nextInt(6);
        List<int[]> leads = new ArrayList<>();
        for (int i = random.nextInt(4); i >= 0; i--) {
            leads.add(new int[] {random.nextInt(w + 1), random.nextInt(h + 1), random.nextInt(w + 1), random.nextInt(h + 1)});
        }
        draw(w, h, leads);
        due("keep(" + k + ")", bench.keep(k), plain.keep(k));
        int quarters = random.nextInt(4);
        for (int turn = 0; turn < quarters; turn++) {
            for (int[] l : leads) {
                int[] t = {h - l[1], l[0], h - l[3], l[2]};
                System.arraycopy(t, 0, l, 0, 4);
            }
            int t = w;
            w = h;
            h = t;
        }
        if (random.nextBoolean()) {
            for (int[] l : leads) {
                l[0] = w - l[0];
                l[2] = w - l[2];
            }
        }
        draw(w, h, leads);
        due("alike(" + k + ")", bench.alike(k), plain.alike(k));
        newLead();
        due("alike(" + k + ")", bench.alike(k), plain.alike(k));
    }

    /** Many leads right through a large window: more panes and joints than a word has bits. */
    private void drawThicket() {
        List<int[]> leads = new ArrayList<>();
        for (int i = 8 + random.nextInt(7); i > 0; i--) {
            int a = random.nextInt(13);
            int b = random.nextInt(13);
            leads.add(random.nextBoolean() ? new int[] {0, a, 12, b} : new int[] {a, 0, b, 12});
        }
        draw(12, 12, leads);
    }

    private void draw(int w, int h, List<int[]> leads) {
        due("window(" + w + ", " + h + ")", bench.window(w, h), plain.window(w, h));
        for (int[] l : leads) {
            due("lead(" + l[0] + ", " + l[1] + ", " + l[2] + ", " + l[3] + ")", bench.lead(l[0], l[1], l[2], l[3]), plain.lead(l[0], l[1], l[2], l[3]));
        }
    }
}

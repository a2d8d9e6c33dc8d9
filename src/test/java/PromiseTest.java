/** Each promise of the document by runs made by hand: ordinary inputs, edges, wrong inputs. */
public final class PromiseTest {
    private static final int MIN = Integer.MIN_VALUE;
    private static final int MAX = Integer.MAX_VALUE;

    private static int promise = 0;
    private static int wrong = 0;

    public static void main(String[] args) {
        newObject();
        windows();
        leads();
        undoing();
        counts();
        joints();
        pieces();
        corners();
        panes();
        areas();
        touches();
        points();
        glasses();
        colourings();
        lacks();
        bits();
        picks();
        unpicks();
        sheets();
        keeps();
        backs();
        likenesses();
        racks();
        kindsOfRack();
        findings();
        System.out.println(wrong == 0 ? "all promises hold" : wrong + " answers are not as due");
        System.exit(wrong == 0 ? 0 : 1);
    }

    private static void due(String call, long got, long want) {
        if (got != want) {
            wrong++;
            System.out.println("promise " + promise + ": " + call + " answered " + got + ", due is " + want);
        }
    }

    private static GlazierBench window(int w, int h, int... ends) {
        GlazierBench x = new GlazierBench();
        x.window(w, h);
        draw(x, ends);
        return x;
    }

    private static void draw(GlazierBench x, int... ends) {
        for (int i = 0; i + 3 < ends.length; i += 4) {
            x.lead(ends[i], ends[i + 1], ends[i + 2], ends[i + 3]);
        }
    }

    /** Panes 0 below, 1 left, 2 right, 3 above; joint 2 is in the middle. */
    private static GlazierBench cross() {
        return window(4, 4, 0, 0, 4, 4, 0, 4, 4, 0);
    }

    /** A triangle on a stalk from the lower left corner: pane 1 in pane 0. */
    private static GlazierBench stalk() {
        return window(3, 3, 1, 1, 2, 1, 2, 1, 2, 2, 2, 2, 1, 1, 0, 0, 1, 1);
    }

    /** 8 by 8 panes, by rows. */
    private static GlazierBench lattice() {
        GlazierBench x = window(12, 12);
        for (int i = 1; i <= 7; i++) {
            x.lead(0, i, 12, i);
            x.lead(i, 0, i, 12);
        }
        return x;
    }

    /** As many leads as there may be, right through, so that most of them cross: more panes than a word has bits. */
    private static GlazierBench thicket() {
        return window(12, 12,
            0, 1, 12, 11, 0, 3, 12, 2, 0, 9, 12, 4, 1, 0, 11, 12, 5, 0, 4, 12, 9, 0, 2, 12, 0, 5, 12, 6,
            0, 11, 12, 1, 0, 7, 12, 9, 3, 0, 8, 12, 11, 0, 1, 12, 7, 0, 6, 12, 2, 0, 10, 12, 0, 2, 12, 10);
    }

    private static void newObject() {
        promise = 1;
        GlazierBench x = new GlazierBench();
        for (int f = -7; f <= -1; f++) {
            due("found(" + f + ")", x.found(f), 0);
        }
        due("count(0)", x.count(0), -4);
        due("count(7)", x.count(7), -4);
        due("unpick()", x.unpick(), -4);
        for (int k = 0; k < 4; k++) {
            due("back(" + k + ")", x.back(k), -4);
            due("as(" + k + ", 0)", x.as(k, 0), -4);
        }
        due("found(-4)", x.found(-4), 11);
    }

    private static void windows() {
        promise = 2;
        GlazierBench x = new GlazierBench();
        due("window(1, 1)", x.window(1, 1), 1);
        due("window(12, 12)", x.window(12, 12), 1);
        due("window(5, 6)", x.window(5, 6), 1);
        x.lead(0, 0, 5, 6);
        int[][] beyond = {{0, 5}, {5, 0}, {0, 0}, {13, 5}, {5, 13}, {MAX, MAX}, {0, MAX}};
        for (int[] b : beyond) {
            due("window(" + b[0] + ", " + b[1] + ")", x.window(b[0], b[1]), -1);
        }
        int[][] below = {{-1, 5}, {5, -1}, {-1, 13}, {13, -1}, {0, -1}, {MIN, 0}, {MAX, MIN}};
        for (int[] b : below) {
            due("window(" + b[0] + ", " + b[1] + ")", x.window(b[0], b[1]), -2);
        }
        due("count(0)", x.count(0), 5);
        due("count(1)", x.count(1), 6);
        due("count(2)", x.count(2), 1);
        x.glass(0, 1, 0);
        x.pick(1);
        x.lack(10);
        due("bits(0)", x.bits(0), 1);
        due("window(5, 6)", x.window(5, 6), 1);
        due("count(2)", x.count(2), 0);
        due("count(3)", x.count(3), 4);
        due("count(6)", x.count(6), 1);
        due("count(7)", x.count(7), 0);
        due("pane(0, 5)", x.pane(0, 5), 0);
        due("pane(0, 6)", x.pane(0, 6), 255);
        due("pane(0, 7)", x.pane(0, 7), 8);
        due("bits(0)", x.bits(0), 0);
    }

    private static void leads() {
        promise = 3;
        GlazierBench x = new GlazierBench();
        due("lead(9, 9, 9, 9)", x.lead(9, 9, 9, 9), -4);
        x.window(4, 3);
        int[][] beyond = {{5, 0, 0, 0}, {0, 4, 0, 0}, {0, 0, 5, 0}, {0, 0, 0, 4}, {-1, 0, 0, 0}, {0, -1, 1, 1},
            {0, 0, -1, 0}, {1, 0, 0, -1}, {5, 5, 5, 5}, {MIN, MAX, MAX, MIN}};
        for (int[] b : beyond) {
            due("lead(" + b[0] + ", " + b[1] + ", " + b[2] + ", " + b[3] + ")", x.lead(b[0], b[1], b[2], b[3]), -1);
        }
        due("lead(4, 3, 4, 3)", x.lead(4, 3, 4, 3), -2);
        due("count(2)", x.count(2), 0);
        for (int i = 0; i < 14; i++) {
            due("lead " + i, x.lead(i % 4, 0, i % 5, 3), i);
        }
        due("lead(0, 0, 5, 0)", x.lead(0, 0, 5, 0), -1);
        due("lead(1, 1, 1, 1)", x.lead(1, 1, 1, 1), -2);
        due("lead(0, 0, 1, 1)", x.lead(0, 0, 1, 1), -3);
        due("count(2)", x.count(2), 14);
        leadsChangeAll();
    }

    private static void leadsChangeAll() {
        GlazierBench x = cross();
        x.glass(0, 2, 0);
        x.glass(3, 1, 9);
        x.pick(1);
        x.lack(100);
        due("bits(0)", x.bits(0), 1);
        due("lead(4, 4, 4, 4)", x.lead(4, 4, 4, 4), -2);
        due("bits(0)", x.bits(0), 1);
        due("count(7)", x.count(7), 1);
        due("lead(0, 0, 1, 0)", x.lead(0, 0, 1, 0), 2);
        due("pane(0, 5)", x.pane(0, 5), 0);
        due("pane(0, 6)", x.pane(0, 6), 255);
        due("count(7)", x.count(7), 0);
        due("bits(0)", x.bits(0), 0);
        x.colours(100);
        due("pane(0, 7)", x.pane(0, 7), 0);
        x.lead(0, 0, 1, 0);
        due("pane(0, 7)", x.pane(0, 7), 8);
    }

    private static void undoing() {
        promise = 4;
        GlazierBench x = new GlazierBench();
        due("undo()", x.undo(), -4);
        x.window(4, 4);
        due("undo()", x.undo(), -4);
        draw(x, 0, 0, 4, 4, 0, 4, 4, 0, 0, 2, 4, 2);
        due("count(6)", x.count(6), 6);
        x.glass(5, 1, 0);
        x.pick(5);
        x.lack(100);
        due("undo()", x.undo(), 2);
        due("count(6)", x.count(6), 4);
        due("count(7)", x.count(7), 0);
        due("bits(0)", x.bits(0), 0);
        due("pane(3, 6)", x.pane(3, 6), 255);
        due("joint(2, 0)", x.joint(2, 0), 2);
        due("undo()", x.undo(), 1);
        due("lead(0, 4, 4, 0)", x.lead(0, 4, 4, 0), 1);
        due("undo()", x.undo(), 1);
        due("undo()", x.undo(), 0);
        due("count(6)", x.count(6), 1);
        due("undo()", x.undo(), -4);
        due("found(-4)", x.found(-4), 3);
    }

    private static void counts() {
        promise = 5;
        GlazierBench x = new GlazierBench();
        due("count(8)", x.count(8), -4);
        x.window(5, 4);
        int[] empty = {5, 4, 0, 4, 4, 0, 1, 0};
        for (int what = 0; what < 8; what++) {
            due("count(" + what + ")", x.count(what), empty[what]);
        }
        // One through, one that crosses it and ends inside, one that hangs on nothing.
        draw(x, 0, 2, 5, 2, 2, 0, 2, 3, 3, 3, 4, 3);
        x.pick(0);
        x.pick(0);
        int[] drawn = {5, 4, 3, 11, 12, 2, 3, 2};
        for (int what = 0; what < 8; what++) {
            due("count(" + what + ")", x.count(what), drawn[what]);
        }
        for (int what : new int[] {8, -1, MIN, MAX}) {
            due("count(" + what + ")", x.count(what), -1);
        }
        GlazierBench many = thicket();
        due("count(3)", many.count(3), 100);
        due("count(4)", many.count(4), 188);
        due("count(6)", many.count(6), 89);
        // Leads on one line: their ends part each other, the same two joints are one piece.
        x = window(6, 2, 0, 1, 4, 1, 2, 1, 6, 1, 4, 1, 2, 1);
        due("count(3)", x.count(3), 8);
        due("count(4)", x.count(4), 9);
        // A row of pieces that closes, but leads to no side; then one that hangs on a side by one stalk.
        x = window(4, 4, 1, 1, 3, 1, 3, 1, 2, 3, 2, 3, 1, 1);
        due("count(5)", x.count(5), 3);
        x.lead(2, 3, 2, 4);
        due("count(5)", x.count(5), 0);
        due("count(6)", x.count(6), 2);
        x.undo();
        x.lead(1, 1, 0, 1);
        // It crosses the ring at 3/2, 2 and has a dead end on either side.
        x.lead(1, 2, 2, 2);
        due("count(5)", x.count(5), 2);
    }

    private static void joints() {
        promise = 6;
        GlazierBench x = new GlazierBench();
        due("joint(0, 0)", x.joint(0, 0), -4);
        due("joint(-1, 9)", x.joint(-1, 9), -4);
        x.window(6, 1);
        draw(x, 0, 0, 6, 1, 1, 0, 3, 1);
        // 0: 0, 0. 1: 1, 0. 2: 6, 0. 3: 3/2, 1/4. 4: 0, 1. 5: 3, 1. 6: 6, 1.
        int[][] all = {{0, 1, 0, 1, 3, 3}, {1, 1, 0, 1, 3, 3}, {6, 1, 0, 1, 2, 2}, {3, 2, 1, 4, 4, 4},
            {0, 1, 1, 1, 2, 2}, {3, 1, 1, 1, 3, 3}, {6, 1, 1, 1, 3, 3}};
        due("count(3)", x.count(3), all.length);
        for (int i = 0; i < all.length; i++) {
            for (int what = 0; what < 6; what++) {
                due("joint(" + i + ", " + what + ")", x.joint(i, what), all[i][what]);
            }
        }
        int[][] beyond = {{7, 0}, {-1, 0}, {0, 6}, {0, -1}, {MAX, 0}, {MIN, 0}, {0, MAX}, {0, MIN}};
        for (int[] b : beyond) {
            due("joint(" + b[0] + ", " + b[1] + ")", x.joint(b[0], b[1]), -1);
        }
        x = cross();
        x.lead(2, 2, 3, 2);
        due("joint(2, 4)", x.joint(2, 4), 5);
        due("joint(2, 5)", x.joint(2, 5), 4);
        due("joint(3, 0)", x.joint(3, 0), 3);
        due("joint(3, 4)", x.joint(3, 4), 1);
        due("joint(3, 5)", x.joint(3, 5), 0);
        // The same place reached by three leads, and a lead that ends on another one.
        x = window(4, 4, 0, 0, 4, 4, 0, 4, 4, 0, 0, 2, 4, 2, 3, 3, 3, 4);
        due("count(3)", x.count(3), 9);
        due("joint(3, 4)", x.joint(3, 4), 6);
        due("joint(5, 4)", x.joint(5, 4), 3);
        // 143 / 12 and 143 / 144 at the far end of what a denominator can be.
        x = window(12, 12, 0, 0, 12, 1, 12, 0, 11, 12);
        due("joint(2, 0)", x.joint(2, 0), 1728);
        due("joint(2, 1)", x.joint(2, 1), 145);
        due("joint(2, 2)", x.joint(2, 2), 144);
        due("joint(2, 3)", x.joint(2, 3), 145);
    }

    private static void pieces() {
        promise = 7;
        GlazierBench x = new GlazierBench();
        due("piece(0, 0)", x.piece(0, 0), -4);
        x = cross();
        x.lead(2, 2, 3, 2);
        // 0: 0, 0. 1: 4, 0. 2: 2, 2. 3: 3, 2. 4: 0, 4. 5: 4, 4.
        int[][] between = {{0, 1, 2}, {0, 2, 2}, {0, 4, 2}, {1, 2, 2}, {1, 5, 2}, {2, 4, 2}, {2, 5, 2}, {4, 5, 2},
            {2, 3, 1}, {0, 3, 0}, {0, 5, 0}, {1, 4, 0}, {3, 5, 0}, {0, 0, 0}, {3, 3, 0}};
        for (int[] b : between) {
            due("piece(" + b[0] + ", " + b[1] + ")", x.piece(b[0], b[1]), b[2]);
            due("piece(" + b[1] + ", " + b[0] + ")", x.piece(b[1], b[0]), b[2]);
        }
        for (int i : new int[] {6, -1, MIN, MAX}) {
            due("piece(" + i + ", 0)", x.piece(i, 0), -1);
            due("piece(0, " + i + ")", x.piece(0, i), -1);
        }
        // Dead ends loosen what they hang on, up to the first joint that holds otherwise.
        x = window(4, 4, 0, 2, 1, 2, 1, 2, 2, 2, 2, 2, 3, 3);
        due("count(5)", x.count(5), 3);
        due("piece(2, 3)", x.piece(2, 3), 1);
        x.lead(3, 3, 4, 3);
        due("count(5)", x.count(5), 0);
        due("piece(2, 3)", x.piece(2, 3), 2);
    }

    private static void corners() {
        promise = 8;
        GlazierBench x = new GlazierBench();
        due("corner(0, 0)", x.corner(0, 0), -4);
        x = cross();
        cornersAre(x, 0, 0, 1, 2);
        cornersAre(x, 1, 0, 2, 3);
        cornersAre(x, 2, 1, 4, 2);
        cornersAre(x, 3, 2, 4, 3);
        for (int p : new int[] {4, -1, MIN, MAX}) {
            due("corner(" + p + ", 0)", x.corner(p, 0), -1);
            due("corner(0, " + p + ")", x.corner(0, p), -1);
        }
        x = stalk();
        cornersAre(x, 0, 0, 1, 6, 5, 0, 2, 4, 3, 2);
        cornersAre(x, 1, 2, 3, 4);
        // A joint in the middle of a straight line is a corner, too.
        x = window(4, 2, 2, 0, 2, 1);
        cornersAre(x, 0, 0, 1, 2, 5, 4);
        // The second lead ends on the first one's far side.
        x = window(4, 4, 0, 1, 4, 1, 1, 1, 1, 4);
        cornersAre(x, 0, 0, 1, 4, 3, 2);
        cornersAre(x, 1, 2, 3, 6, 5);
        cornersAre(x, 2, 3, 4, 7, 6);
    }

    private static void cornersAre(GlazierBench x, int p, int... joints) {
        due("pane(" + p + ", 0)", x.pane(p, 0), joints.length);
        for (int k = 0; k < joints.length; k++) {
            due("corner(" + p + ", " + k + ")", x.corner(p, k), joints[k]);
        }
        due("corner(" + p + ", " + joints.length + ")", x.corner(p, joints.length), -1);
    }

    private static void panes() {
        promise = 9;
        GlazierBench x = new GlazierBench();
        due("pane(0, 0)", x.pane(0, 0), -4);
        x = stalk();
        paneIs(x, 0, 9, 0, 0, 3, 3, 0, 255, 8, 3, 1);
        paneIs(x, 1, 3, 1, 1, 1, 1, 0, 255, 8, 3, 0);
        x.glass(1, 2, 6);
        x.colours(100);
        paneIs(x, 1, 3, 1, 1, 1, 1, 2, 6, 1, 3, 0);
        for (int n : new int[] {2, -1, MIN, MAX}) {
            due("pane(" + n + ", 0)", x.pane(n, 0), -1);
        }
        for (int n : new int[] {10, -1, MIN, MAX}) {
            due("pane(0, " + n + ")", x.pane(0, n), -1);
        }
        // The crossing is at 3/2, 1/4: boxes are let out to whole corners.
        x = window(6, 1, 0, 0, 6, 1, 1, 0, 3, 1);
        paneIs(x, 0, 3, 0, 0, 2, 1, 0, 255, 8, 2, 0);
        paneIs(x, 1, 4, 0, 0, 3, 1, 0, 255, 8, 2, 0);
        paneIs(x, 2, 4, 1, 0, 5, 1, 0, 255, 8, 2, 0);
        paneIs(x, 3, 3, 1, 0, 5, 1, 0, 255, 8, 2, 0);
        // Both crossings of pane 2 lie inside its box.
        x = window(4, 4, 0, 1, 4, 2, 0, 3, 4, 2, 1, 0, 2, 4);
        due("count(6)", x.count(6), 6);
        for (int p = 0; p < 6; p++) {
            due("pane(" + p + ", 9)", x.pane(p, 9), 0);
        }
    }

    private static void paneIs(GlazierBench x, int p, int... all) {
        for (int what = 0; what < all.length; what++) {
            due("pane(" + p + ", " + what + ")", x.pane(p, what), all[what]);
        }
    }

    private static void areas() {
        promise = 10;
        GlazierBench x = new GlazierBench();
        due("area(0)", x.area(0), -4);
        x.window(12, 12);
        due("area(0)", x.area(0), 144000000);
        for (int p : new int[] {1, -1, MIN, MAX}) {
            due("area(" + p + ")", x.area(p), -1);
        }
        areasAre(window(1, 1, 0, 0, 1, 1), 500000, 500000);
        areasAre(window(2, 1, 0, 0, 2, 1, 1, 0, 0, 1), 166666, 333333, 833333, 666666);
        areasAre(window(3, 2, 0, 0, 3, 2, 0, 1, 3, 0), 1000000, 500000, 2000000, 2500000);
        areasAre(stalk(), 8500000, 500000);
        // A loose ring takes nothing away.
        areasAre(window(3, 3, 1, 1, 2, 1, 2, 1, 2, 2, 2, 2, 1, 1), 9000000);
        x = thicket();
        long sum = 0;
        for (int p = 0; p < x.count(6); p++) {
            sum += x.area(p);
        }
        boolean near = sum <= 144000000L && sum > 144000000L - x.count(6);
        due("the areas together", near ? 1 : 0, 1);
        due("found(-1)", x.found(-1), 0);
    }

    private static void areasAre(GlazierBench x, long... all) {
        due("count(6)", x.count(6), all.length);
        for (int p = 0; p < all.length; p++) {
            due("area(" + p + ")", x.area(p), all[p]);
        }
    }

    private static void touches() {
        promise = 11;
        GlazierBench x = new GlazierBench();
        due("touch(0, 0)", x.touch(0, 0), -4);
        x = cross();
        int[][] along = {{0, 0, 0}, {0, 1, 1}, {0, 2, 1}, {0, 3, 0}, {1, 2, 0}, {1, 3, 1}, {2, 3, 1}, {3, 3, 0}};
        for (int[] a : along) {
            due("touch(" + a[0] + ", " + a[1] + ")", x.touch(a[0], a[1]), a[2]);
            due("touch(" + a[1] + ", " + a[0] + ")", x.touch(a[1], a[0]), a[2]);
        }
        for (int p : new int[] {4, -1, -2, MIN, MAX}) {
            due("touch(" + p + ", 0)", x.touch(p, 0), -1);
            due("touch(0, " + p + ")", x.touch(0, p), -1);
        }
        x = stalk();
        due("touch(0, 0)", x.touch(0, 0), 1);
        due("touch(0, 1)", x.touch(0, 1), 3);
        due("touch(1, 1)", x.touch(1, 1), 0);
        // A loose lead parts the piece on which it ends.
        x = window(4, 4, 0, 2, 4, 2, 2, 2, 2, 3);
        due("touch(0, 1)", x.touch(0, 1), 2);
        due("touch(1, 1)", x.touch(1, 1), 0);
    }

    private static void points() {
        promise = 12;
        GlazierBench x = new GlazierBench();
        due("at(1, 1)", x.at(1, 1), -4);
        x = cross();
        int[][] places = {{4, 1, 0}, {1, 4, 1}, {7, 4, 2}, {4, 7, 3}, {2, 1, 0}, {1, 2, 1}, {4, 4, -7}, {1, 1, -7},
            {7, 1, -7}, {0, 4, -1}, {8, 4, -1}, {4, 0, -1}, {4, 8, -1}, {0, 0, -1}, {8, 8, -1}, {-1, 4, -1},
            {9, 4, -1}, {4, -1, -1}, {4, 9, -1}, {MAX, 4, -1}, {MIN, 4, -1}, {4, MAX, -1}, {4, MIN, -1}};
        for (int[] p : places) {
            due("at(" + p[0] + ", " + p[1] + ")", x.at(p[0], p[1]), p[2]);
        }
        x = stalk();
        due("at(1, 1)", x.at(1, 1), -7);
        due("at(3, 2)", x.at(3, 2), -7);
        due("at(3, 3)", x.at(3, 3), -7);
        due("at(5, 3)", x.at(5, 3), 0);
        due("at(1, 2)", x.at(1, 2), 0);
        due("at(1, 4)", x.at(1, 4), 0);
        due("at(5, 2)", x.at(5, 2), 0);
        // The points of a loose lead lie in a pane.
        x = window(3, 3, 1, 1, 2, 1, 2, 1, 2, 2, 2, 2, 1, 1);
        due("at(3, 2)", x.at(3, 2), 0);
        x = window(12, 12, 6, 0, 6, 6, 6, 6, 12, 6, 6, 6, 0, 8);
        due("at(13, 11)", x.at(13, 11), 1);
        due("at(13, 13)", x.at(13, 13), 2);
        due("at(1, 15)", x.at(1, 15), 0);
        due("at(6, 14)", x.at(6, 14), -7);
    }

    private static void glasses() {
        promise = 13;
        GlazierBench x = new GlazierBench();
        due("glass(0, 9, 0)", x.glass(0, 9, 0), -4);
        x = cross();
        for (int p : new int[] {4, -1, MIN, MAX}) {
            due("glass(" + p + ", 9, 0)", x.glass(p, 9, 0), -1);
        }
        x.colours(100);
        for (int kind : new int[] {3, -1, MIN, MAX}) {
            due("glass(3, " + kind + ", 7)", x.glass(3, kind, 7), -5);
        }
        glassIs(x, 3, 0, 255, 0);
        due("glass(3, 1, 7)", x.glass(3, 1, 7), 1);
        glassIs(x, 3, 1, 7, 8);
        glassIs(x, 2, 0, 255, 1);
        due("glass(3, 2, 257)", x.glass(3, 2, 257), 1);
        glassIs(x, 3, 2, 1, 8);
        due("glass(3, 1, -1)", x.glass(3, 1, -1), 1);
        glassIs(x, 3, 1, 255, 8);
        due("glass(3, 2, 0)", x.glass(3, 2, 0), 1);
        glassIs(x, 3, 2, 0, 8);
        due("glass(3, 0, 5)", x.glass(3, 0, 5), 1);
        glassIs(x, 3, 0, 255, 8);
        x.colours(100);
        due("glass(2, 0, 0)", x.glass(2, 0, 0), 1);
        glassIs(x, 2, 0, 255, 8);
        due("found(-5)", x.found(-5), 4);
    }

    private static void glassIs(GlazierBench x, int p, int kind, int allowed, int colour) {
        due("pane(" + p + ", 5)", x.pane(p, 5), kind);
        due("pane(" + p + ", 6)", x.pane(p, 6), allowed);
        due("pane(" + p + ", 7)", x.pane(p, 7), colour);
    }

    private static void colourings() {
        promise = 14;
        GlazierBench x = new GlazierBench();
        due("colours(-1)", x.colours(-1), -4);
        x = cross();
        for (int tries : new int[] {-1, 100001, MIN, MAX}) {
            due("colours(" + tries + ")", x.colours(tries), -1);
        }
        // 1 for pane 0, 2 each for panes 1 and 2, 1 for pane 3.
        due("colours(5)", x.colours(5), -6);
        coloursAre(x, 8, 8, 8, 8);
        due("colours(6)", x.colours(6), 1);
        coloursAre(x, 0, 1, 1, 0);
        due("colours(0)", x.colours(0), -6);
        coloursAre(x, 0, 1, 1, 0);
        due("colours(100000)", x.colours(100000), 1);
        // Back from pane 2 past pane 1 to pane 0: 1 + 2 + 1 + 1 + 1 + 1 + 2 tries.
        x.glass(0, 1, 3);
        x.glass(1, 1, 5);
        x.glass(2, 2, 1);
        due("colours(8)", x.colours(8), -6);
        coloursAre(x, 8, 8, 8, 0);
        due("colours(9)", x.colours(9), 1);
        coloursAre(x, 1, 0, 0, 1);
        // 0 and 1 both have colour 0 alone: two tries, and none is found.
        x.glass(0, 1, 1);
        x.glass(1, 1, 1);
        due("colours(1)", x.colours(1), -6);
        coloursAre(x, 8, 8, 0, 1);
        due("colours(2)", x.colours(2), 0);
        coloursAre(x, 8, 8, 8, 8);
        // Without an allowed colour nothing is tried.
        x.glass(0, 2, 0);
        due("colours(0)", x.colours(0), 0);
        x = stalk();
        x.glass(0, 1, 1);
        x.glass(1, 1, 129);
        due("colours(3)", x.colours(3), 1);
        coloursAre(x, 0, 7);
        allDiffer(thicket());
        allDiffer(lattice());
    }

    private static void coloursAre(GlazierBench x, int... all) {
        for (int p = 0; p < all.length; p++) {
            due("pane(" + p + ", 7)", x.pane(p, 7), all[p]);
        }
    }

    /** All are clear and none needs to go back: each has the lowest colour that those ahead leave it. */
    private static void allDiffer(GlazierBench x) {
        due("colours(100000)", x.colours(100000), 1);
        for (int p = 0; p < x.count(6); p++) {
            int taken = 0;
            for (int q = 0; q < p; q++) {
                taken |= x.touch(p, q) > 0 ? 1 << x.pane(q, 7) : 0;
            }
            due("pane(" + p + ", 7)", x.pane(p, 7), Integer.numberOfTrailingZeros(~taken));
        }
    }

    private static void lacks() {
        promise = 15;
        GlazierBench x = new GlazierBench();
        due("lack(-1)", x.lack(-1), -4);
        x = cross();
        for (int tries : new int[] {-1, 20001, MIN, MAX}) {
            due("lack(" + tries + ")", x.lack(tries), -1);
        }
        due("lack(5)", x.lack(5), -6);
        due("lack(6)", x.lack(6), -7);
        x.colours(100);
        x.glass(0, 1, 1);
        x.glass(1, 1, 1);
        x.glass(2, 1, 1);
        // Over all: 2 tries. Without pane 0: 4 tries, and a colouring.
        due("lack(1)", x.lack(1), -6);
        due("lack(3)", x.lack(3), -6);
        due("bits(0)", x.bits(0), 0);
        due("lack(4)", x.lack(4), 2);
        due("bits(0)", x.bits(0), 5);
        due("lack(20000)", x.lack(20000), 2);
        due("pane(3, 7)", x.pane(3, 7), 0);
        // Without pane 1: 3 tries; it can't have a colour by itself.
        x.glass(1, 1, 0);
        due("lack(2)", x.lack(2), -6);
        due("bits(0)", x.bits(0), 5);
        due("lack(3)", x.lack(3), 1);
        due("bits(0)", x.bits(0), 2);
        x.glass(1, 0, 0);
        x.glass(2, 0, 0);
        due("lack(100)", x.lack(100), -7);
        due("bits(0)", x.bits(0), 2);
        x = window(1, 1);
        x.glass(0, 1, 0);
        due("lack(0)", x.lack(0), 1);
        due("bits(0)", x.bits(0), 1);
    }

    private static void bits() {
        promise = 16;
        GlazierBench x = new GlazierBench();
        due("bits(-1)", x.bits(-1), -4);
        x = lattice();
        for (int i : new int[] {-1, 10, MIN, MAX}) {
            due("bits(" + i + ")", x.bits(i), -1);
        }
        bitsAre(x, 0, 0, 0);
        for (int p = 0; p < 64; p++) {
            x.glass(p, 1, 1 << (p / 8 + p % 8) % 2);
        }
        x.glass(35, 1, 1);
        due("lack(1000)", x.lack(1000), 2);
        bitsAre(x, 0, 1 << 5 | 1 << 13, 0);
        x.glass(35, 1, 2);
        due("lack(1000)", x.lack(1000), -7);
        bitsAre(x, 0, 1 << 5 | 1 << 13, 0);
        x.glass(63, 2, 2);
        due("lack(1000)", x.lack(1000), 2);
        bitsAre(x, 0, 0, 1 << 2 | 1 << 3);
        x.glass(63, 2, 1);
        x.glass(29, 2, 2);
        due("lack(1000)", x.lack(1000), 2);
        bitsAre(x, 1 << 29, 1 << 7, 0);
        x.glass(29, 2, 0);
        due("lack(1000)", x.lack(1000), 1);
        bitsAre(x, 1 << 29, 0, 0);
        x.undo();
        bitsAre(x, 0, 0, 0);
        bitsOfMany();
    }

    /** Every pane may have one colour alone; the last one and the nearest ahead of it that it touches the same. */
    private static void bitsOfMany() {
        GlazierBench x = thicket();
        x.colours(100000);
        int last = x.count(6) - 1;
        int ahead = last - 1;
        while (x.touch(last, ahead) == 0) {
            ahead--;
        }
        int same = 1 << x.pane(ahead, 7);
        for (int p = 0; p < last; p++) {
            x.glass(p, 1, 1 << x.pane(p, 7));
        }
        x.glass(last, 2, same);
        due("lack(20000)", x.lack(20000), 2);
        for (int i = 0; i < 10; i++) {
            int bits = (last / 30 == i ? 1 << last % 30 : 0) | (ahead / 30 == i ? 1 << ahead % 30 : 0);
            due("bits(" + i + ")", x.bits(i), bits);
        }
    }

    private static void bitsAre(GlazierBench x, int first, int second, int third) {
        due("bits(0)", x.bits(0), first);
        due("bits(1)", x.bits(1), second);
        due("bits(2)", x.bits(2), third);
        for (int i = 3; i < 10; i++) {
            due("bits(" + i + ")", x.bits(i), 0);
        }
    }

    private static void picks() {
        promise = 17;
        GlazierBench x = new GlazierBench();
        due("pick(0)", x.pick(0), -4);
        x = cross();
        for (int p : new int[] {4, -1, MIN, MAX}) {
            due("pick(" + p + ")", x.pick(p), -1);
        }
        for (int i = 1; i <= 6; i++) {
            due("pick(3)", x.pick(3), i);
            due("count(7)", x.count(7), i);
        }
        due("pick(3)", x.pick(3), -3);
        due("pick(4)", x.pick(4), -1);
        due("count(7)", x.count(7), 6);
        x.glass(3, 1, 1);
        x.colours(100);
        due("count(7)", x.count(7), 6);
        x.undo();
        due("count(7)", x.count(7), 0);
        x.pick(0);
        x.window(4, 4);
        due("count(7)", x.count(7), 0);
    }

    private static void unpicks() {
        promise = 18;
        GlazierBench x = new GlazierBench();
        due("unpick()", x.unpick(), -4);
        x = cross();
        due("unpick()", x.unpick(), 0);
        x.pick(0);
        x.pick(2);
        due("unpick()", x.unpick(), 2);
        due("count(7)", x.count(7), 0);
        due("unpick()", x.unpick(), 0);
        due("pick(1)", x.pick(1), 1);
    }

    private static void sheets() {
        promise = 19;
        GlazierBench x = new GlazierBench();
        due("sheets(0, 0, true)", x.sheets(0, 0, true), -4);
        x = window(3, 3, 0, 1, 2, 1, 2, 0, 2, 2, 1, 2, 3, 2, 1, 1, 1, 3);
        for (int a : new int[] {0, 13, -1, MIN, MAX}) {
            due("sheets(" + a + ", 3, true)", x.sheets(a, 3, true), -1);
            due("sheets(3, " + a + ", true)", x.sheets(3, a, true), -1);
        }
        due("sheets(1, 1, false)", x.sheets(1, 1, false), 0);
        for (int p = 0; p < 5; p++) {
            x.pick(p);
        }
        // Round a middle one they fill 3 by 3, but no straight cut goes through.
        due("sheets(3, 3, false)", x.sheets(3, 3, false), 2);
        due("sheets(3, 3, true)", x.sheets(3, 3, true), 1);
        for (int p = 0; p < 5; p++) {
            x.glass(p, 2, 255);
        }
        due("sheets(3, 3, true)", x.sheets(3, 3, true), 2);
        due("sheets(1, 2, true)", x.sheets(1, 2, true), -7);
        due("sheets(2, 2, true)", x.sheets(2, 2, true), 3);
        due("sheets(12, 12, false)", x.sheets(12, 12, false), 1);
        due("sheets(12, 1, true)", x.sheets(12, 1, true), -7);
        x.glass(0, 1, 255);
        x.unpick();
        x.pick(0);
        due("sheets(1, 2, false)", x.sheets(1, 2, false), -7);
        due("sheets(1, 2, true)", x.sheets(1, 2, true), 1);
        x = window(12, 12, 0, 7, 12, 7, 5, 0, 5, 7);
        // Boxes 5 by 7, 7 by 7 and 12 by 5.
        for (int i = 0; i < 6; i++) {
            x.pick(i % 3);
        }
        due("sheets(12, 12, false)", x.sheets(12, 12, false), 2);
        due("sheets(12, 11, false)", x.sheets(12, 11, false), 3);
        due("sheets(11, 12, false)", x.sheets(11, 12, false), -7);
        due("sheets(12, 7, true)", x.sheets(12, 7, true), 4);
    }

    private static void keeps() {
        promise = 20;
        GlazierBench x = new GlazierBench();
        due("keep(9)", x.keep(9), -4);
        x = cross();
        for (int k : new int[] {4, -1, MIN, MAX}) {
            due("keep(" + k + ")", x.keep(k), -1);
        }
        for (int k = 0; k < 4; k++) {
            due("keep(" + k + ")", x.keep(k), 1);
        }
        x.lead(0, 2, 4, 2);
        due("keep(1)", x.keep(1), 1);
        due("alike(1)", x.alike(1), 4);
        due("alike(0)", x.alike(0), 0);
        x.window(2, 2);
        due("keep(3)", x.keep(3), 1);
        due("back(0)", x.back(0), 4);
        due("back(1)", x.back(1), 6);
        due("back(3)", x.back(3), 1);
        due("back(2)", x.back(2), 4);
    }

    private static void backs() {
        promise = 21;
        GlazierBench x = new GlazierBench();
        for (int k : new int[] {4, -1, MIN, MAX}) {
            due("back(" + k + ")", x.back(k), -1);
        }
        due("back(0)", x.back(0), -4);
        x.window(4, 3);
        draw(x, 0, 0, 4, 3, 0, 1, 4, 1);
        x.glass(0, 1, 0);
        x.pick(0);
        x.lack(10);
        x.keep(2);
        x.colours(100);
        due("back(2)", x.back(2), 4);
        due("count(7)", x.count(7), 0);
        due("bits(0)", x.bits(0), 0);
        due("pane(0, 6)", x.pane(0, 6), 255);
        x.window(12, 12);
        x.lead(0, 0, 12, 12);
        due("back(0)", x.back(0), -4);
        due("count(0)", x.count(0), 12);
        due("back(2)", x.back(2), 4);
        due("count(0)", x.count(0), 4);
        due("count(1)", x.count(1), 3);
        due("count(2)", x.count(2), 2);
        due("joint(4, 0)", x.joint(4, 0), 4);
        due("undo()", x.undo(), 1);
        due("lead(0, 3, 4, 0)", x.lead(0, 3, 4, 0), 1);
        due("back(2)", x.back(2), 4);
        due("piece(2, 3)", x.piece(2, 3), 2);
        due("undo()", x.undo(), 1);
        due("count(6)", x.count(6), 2);
    }

    private static void likenesses() {
        promise = 22;
        GlazierBench x = new GlazierBench();
        for (int k : new int[] {4, -1, MIN, MAX}) {
            due("alike(" + k + ")", x.alike(k), -1);
        }
        due("alike(0)", x.alike(0), -4);
        x.window(4, 4);
        due("alike(0)", x.alike(0), -4);
        x.keep(0);
        due("alike(0)", x.alike(0), 8);
        x.lead(0, 1, 4, 2);
        x.keep(1);
        due("alike(0)", x.alike(0), 0);
        due("alike(1)", x.alike(1), 1);
        int[][] turned = {{3, 0, 2, 4}, {4, 3, 0, 2}, {1, 4, 2, 0}, {4, 1, 0, 2}, {1, 0, 2, 4}, {0, 3, 4, 2}, {3, 4, 2, 0}};
        for (int[] t : turned) {
            x.window(4, 4);
            x.lead(t[0], t[1], t[2], t[3]);
            due("alike(1) of " + t[0] + ", " + t[1] + ", " + t[2] + ", " + t[3], x.alike(1), 1);
        }
        x.window(4, 4);
        x.lead(0, 1, 4, 3);
        due("alike(1)", x.alike(1), 0);
        x.keep(1);
        due("alike(1)", x.alike(1), 2);
        likeByPieces(x);
        likeBySize(x);
    }

    private static void likeByPieces(GlazierBench x) {
        x.window(4, 4);
        x.lead(0, 2, 4, 2);
        x.keep(1);
        x.window(4, 4);
        draw(x, 0, 2, 2, 2, 4, 2, 2, 2);
        due("alike(1)", x.alike(1), 0);
        x.keep(2);
        due("alike(2)", x.alike(2), 4);
        x.window(4, 4);
        draw(x, 2, 4, 2, 0, 2, 2, 2, 0);
        due("alike(2)", x.alike(2), 4);
        // The same joints, other pieces.
        x.window(4, 4);
        draw(x, 1, 1, 3, 1, 1, 3, 3, 3);
        x.keep(3);
        due("alike(3)", x.alike(3), 4);
        x.window(4, 4);
        draw(x, 1, 1, 3, 3, 1, 3, 1, 1);
        due("alike(3)", x.alike(3), 0);
        x.window(4, 4);
        draw(x, 1, 1, 1, 3, 3, 3, 3, 1);
        due("alike(3)", x.alike(3), 4);
    }

    private static void likeBySize(GlazierBench x) {
        x.window(5, 3);
        draw(x, 0, 0, 5, 1, 1, 0, 2, 3);
        x.keep(0);
        due("alike(0)", x.alike(0), 1);
        x.window(3, 5);
        due("alike(0)", x.alike(0), 0);
        draw(x, 3, 0, 2, 5, 3, 1, 0, 2);
        due("alike(0)", x.alike(0), 1);
        x.window(3, 5);
        draw(x, 0, 0, 1, 5, 0, 1, 3, 2);
        due("alike(0)", x.alike(0), 1);
        x.window(5, 4);
        due("alike(0)", x.alike(0), 0);
        x.window(3, 5);
        x.keep(0);
        due("alike(0)", x.alike(0), 4);
        x.window(5, 3);
        due("alike(0)", x.alike(0), 4);
    }

    private static void racks() {
        promise = 23;
        GlazierBench x = new GlazierBench();
        for (int k : new int[] {4, -1, MIN, MAX}) {
            due("rack(" + k + ", -1)", x.rack(k, -1), -1);
            due("rack(" + k + ", 0)", x.rack(k, 0), -1);
        }
        due("rack(0, -1)", x.rack(0, -1), 1);
        due("rack(0, 0)", x.rack(0, 0), -4);
        due("rack(0, -2)", x.rack(0, -2), -4);
        x.window(4, 4);
        for (int p : new int[] {1, -2, MIN, MAX}) {
            due("rack(0, " + p + ")", x.rack(0, p), -1);
        }
        x.glass(0, 2, 9);
        due("rack(0, 0)", x.rack(0, 0), 1);
        x.glass(0, 1, 5);
        due("rack(3, 0)", x.rack(3, 0), 1);
        due("as(0, 2)", x.as(0, 2), 9);
        due("as(3, 1)", x.as(3, 1), 5);
        x.lead(0, 0, 4, 4);
        due("rack(1, 1)", x.rack(1, 1), 1);
        x.window(2, 2);
        due("as(0, 2)", x.as(0, 2), 9);
        due("as(1, 0)", x.as(1, 0), 255);
        due("rack(0, 5)", x.rack(0, 5), -1);
        due("as(0, 2)", x.as(0, 2), 9);
        due("rack(0, -1)", x.rack(0, -1), 1);
        due("as(0, 2)", x.as(0, 2), -4);
        due("as(3, 1)", x.as(3, 1), 5);
    }

    private static void kindsOfRack() {
        promise = 24;
        GlazierBench x = window(4, 4);
        for (int kind = 0; kind < 3; kind++) {
            x.glass(0, kind, 64 + kind);
            x.rack(kind, 0);
        }
        int[][] due = {{255, -5, -5}, {65, 65, -5}, {66, 66, 66}, {-4, -4, -4}};
        for (int k = 0; k < 4; k++) {
            for (int kind = 0; kind < 3; kind++) {
                due("as(" + k + ", " + kind + ")", x.as(k, kind), due[k][kind]);
            }
        }
        for (int n : new int[] {4, -1, MIN, MAX}) {
            due("as(" + n + ", 0)", x.as(n, 0), -1);
        }
        for (int n : new int[] {3, -1, MIN, MAX}) {
            due("as(0, " + n + ")", x.as(0, n), -1);
            due("as(3, " + n + ")", x.as(3, n), -1);
        }
        x.glass(0, 2, 0);
        x.rack(3, 0);
        due("as(3, 1)", x.as(3, 1), 0);
    }

    private static void findings() {
        promise = 25;
        GlazierBench x = new GlazierBench();
        for (int f : new int[] {0, 1, -8, MIN, MAX}) {
            due("found(" + f + ")", x.found(f), -1);
        }
        due("found(-1)", x.found(-1), 5);
        everyActWithoutWindow(x);
        due("found(-4)", x.found(-4), 22);
        x.window(-1, 0);
        due("found(-2)", x.found(-2), 1);
        x.window(2, 2);
        x.lead(1, 1, 1, 1);
        due("found(-2)", x.found(-2), 2);
        x.glass(0, 7, 0);
        due("found(-5)", x.found(-5), 1);
        x.colours(0);
        x.lack(0);
        due("found(-6)", x.found(-6), 2);
        x.lack(1);
        due("found(-7)", x.found(-7), 1);
        x.pick(0);
        x.sheets(1, 1, true);
        x.lead(0, 1, 2, 1);
        x.at(2, 2);
        due("found(-7)", x.found(-7), 3);
        x.area(9);
        due("found(-1)", x.found(-1), 6);
        for (int i = 0; i < 7; i++) {
            x.pick(0);
        }
        due("found(-3)", x.found(-3), 1);
        due("found(-5)", x.found(-5), 1);
        due("found(-4)", x.found(-4), 22);
    }

    private static void everyActWithoutWindow(GlazierBench x) {
        long[] answers = {x.lead(0, 0, 1, 1), x.undo(), x.count(0), x.joint(0, 0), x.piece(0, 0), x.corner(0, 0),
            x.pane(0, 0), x.area(0), x.touch(0, 0), x.at(1, 1), x.glass(0, 0, 0), x.colours(1), x.lack(1), x.bits(0),
            x.pick(0), x.unpick(), x.sheets(1, 1, true), x.keep(0), x.back(0), x.alike(0), x.rack(0, 0), x.as(0, 0)};
        for (int i = 0; i < answers.length; i++) {
            due("act " + i + " without a window", answers[i], -4);
        }
    }
}

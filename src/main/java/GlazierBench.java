/**
 * A bench for leaded windows: joints, pieces, panes with exact areas, colourings, cuttings and
 * turnings of a window whose leads are drawn on a grid.
 */
public final class GlazierBench {
    private static final int BEYOND = -1;
    private static final int SIZE = -2;
    private static final int FULL = -3;
    private static final int NOTHING = -4;
    private static final int KIND = -5;
    private static final int SPENT = -6;
    private static final int NONE = -7;
    private static final int FINDINGS = 7;

    private static final int LONGEST_SIDE = 12;
    private static final int SIDES = 4;
    private static final int MOST_LEADS = 14;
    private static final int MOST_LINES = SIDES + MOST_LEADS;
    /** 4 corners, 28 ends and 91 crossings are 123; two words of bits hold up to 128. */
    private static final int MOST_JOINTS = 128;
    /** The slot behind the joints holds a point that is asked about and need not be a joint. */
    private static final int ASKED = MOST_JOINTS;
    /** A flat graph of n joints has at most 3 n - 6 pieces; each is two steps. */
    private static final int MOST_STEPS = 6 * MOST_JOINTS;
    /** 14 lines part a window into at most 106; two words of bits hold up to 128. */
    private static final int MOST_PANES = 128;
    private static final int WORD = 64;

    private static final int CLEAR = 0;
    private static final int TINTED = 1;
    private static final int STREAKED = 2;
    private static final int COLOURS = 8;
    private static final int ALL_COLOURS = 255;
    private static final int NO_COLOUR = 8;
    private static final int MOST_TRIES_TO_COLOUR = 100000;
    private static final int MOST_TRIES_TO_LACK = 20000;

    private static final int PLACES = 4;
    private static final int EMPTY = -1;
    private static final int MOST_CHOSEN = 6;
    private static final int BITS_AT_ONCE = 30;
    private static final int GROUPS_OF_BITS = 10;

    private final Drawing drawing;
    private final Drawing[] kept;
    private final Mesh mesh;
    private final Panes panes;
    private final Glazing glazing;
    private final Likeness likeness;
    private final Cutter cutter;
    private final int[] chosen;
    private int chosenTotal;
    private final int[] rackKind;
    private final int[] rackAllowed;
    private final int[] answered;

    public GlazierBench() {
        drawing = new Drawing();
        kept = new Drawing[PLACES];
        rackKind = new int[PLACES];
        rackAllowed = new int[PLACES];
        for (int k = 0; k < PLACES; k++) {
            kept[k] = new Drawing();
            rackKind[k] = EMPTY;
        }
        mesh = new Mesh();
        panes = new Panes(mesh);
        glazing = new Glazing();
        likeness = new Likeness(mesh);
        cutter = new Cutter();
        chosen = new int[MOST_CHOSEN];
        chosenTotal = 0;
        answered = new int[FINDINGS + 1];
    }

    public int window(int w, int h) {
        if (w < 0 || h < 0) {
            return tell(SIZE);
        }
        if (!isSide(w) || !isSide(h)) {
            return tell(BEYOND);
        }
        drawing.open(w, h);
        redraw();
        return panes.total;
    }

    public int lead(int x, int y, int u, int v) {
        if (!drawing.isThere()) {
            return tell(NOTHING);
        }
        if (!drawing.hasPoint(x, y) || !drawing.hasPoint(u, v)) {
            return tell(BEYOND);
        }
        if (x == u && y == v) {
            return tell(SIZE);
        }
        if (drawing.leads() >= MOST_LEADS) {
            return tell(FULL);
        }
        drawing.append(x, y, u, v);
        redraw();
        return drawing.leads() - 1;
    }

    public int undo() {
        if (!drawing.isThere() || drawing.leads() == 0) {
            return tell(NOTHING);
        }
        drawing.dropLatest();
        redraw();
        return drawing.leads();
    }

    public int count(int what) {
        if (!drawing.isThere()) {
            return tell(NOTHING);
        }
        switch (what) {
            case 0: return drawing.width;
            case 1: return drawing.height;
            case 2: return drawing.leads();
            case 3: return mesh.joints.total;
            case 4: return mesh.pieces.steps / 2;
            case 5: return mesh.pieces.looseSteps() / 2;
            case 6: return panes.total;
            case 7: return chosenTotal;
            default: return tell(BEYOND);
        }
    }

    public int joint(int i, int what) {
        if (!drawing.isThere()) {
            return tell(NOTHING);
        }
        if (!hasJoint(i)) {
            return tell(BEYOND);
        }
        Joints joints = mesh.joints;
        switch (what) {
            case 0: return joints.above(joints.x[i], joints.under[i]);
            case 1: return joints.below(joints.x[i], joints.under[i]);
            case 2: return joints.above(joints.y[i], joints.under[i]);
            case 3: return joints.below(joints.y[i], joints.under[i]);
            case 4: return mesh.pieces.endsAt(i);
            case 5: return mesh.pieces.firmEndsAt(i);
            default: return tell(BEYOND);
        }
    }

    public int piece(int i, int j) {
        if (!drawing.isThere()) {
            return tell(NOTHING);
        }
        if (!hasJoint(i) || !hasJoint(j)) {
            return tell(BEYOND);
        }
        int step = mesh.pieces.stepBetween(i, j);
        if (step < 0) {
            return 0;
        }
        return mesh.pieces.firm[step] ? 2 : 1;
    }

    public int corner(int p, int k) {
        if (!drawing.isThere()) {
            return tell(NOTHING);
        }
        if (!hasPane(p) || k < 0 || k >= panes.corners(p)) {
            return tell(BEYOND);
        }
        return panes.jointAtCorner(p, k);
    }

    public int pane(int p, int what) {
        if (!drawing.isThere()) {
            return tell(NOTHING);
        }
        if (!hasPane(p)) {
            return tell(BEYOND);
        }
        switch (what) {
            case 0: return panes.corners(p);
            case 1: return panes.boxLeft(p);
            case 2: return panes.boxBottom(p);
            case 3: return panes.boxWidth(p);
            case 4: return panes.boxHeight(p);
            case 5: return glazing.kind[p];
            case 6: return glazing.allowed[p];
            case 7: return glazing.colour[p];
            case 8: return panes.touchesOthers(p);
            case 9: return panes.touches(p, p);
            default: return tell(BEYOND);
        }
    }

    public long area(int p) {
        if (!drawing.isThere()) {
            return tell(NOTHING);
        }
        if (!hasPane(p)) {
            return tell(BEYOND);
        }
        return panes.millionths(p);
    }

    public int touch(int p, int q) {
        if (!drawing.isThere()) {
            return tell(NOTHING);
        }
        if (!hasPane(p) || !hasPane(q)) {
            return tell(BEYOND);
        }
        return panes.touches(p, q);
    }

    public int at(int x, int y) {
        if (!drawing.isThere()) {
            return tell(NOTHING);
        }
        if (x <= 0 || y <= 0 || x >= 2 * drawing.width || y >= 2 * drawing.height) {
            return tell(BEYOND);
        }
        int p = panes.around(x, y, 2);
        return p < 0 ? tell(NONE) : p;
    }

    public int glass(int p, int kind, int allowed) {
        if (!drawing.isThere()) {
            return tell(NOTHING);
        }
        if (!hasPane(p)) {
            return tell(BEYOND);
        }
        if (!isKind(kind)) {
            return tell(KIND);
        }
        glazing.put(p, kind, allowed);
        return 1;
    }

    public int colours(int tries) {
        if (!drawing.isThere()) {
            return tell(NOTHING);
        }
        if (tries < 0 || tries > MOST_TRIES_TO_COLOUR) {
            return tell(BEYOND);
        }
        int outcome = glazing.colourAll(tries);
        return outcome < 0 ? tell(outcome) : outcome;
    }

    public int lack(int tries) {
        if (!drawing.isThere()) {
            return tell(NOTHING);
        }
        if (tries < 0 || tries > MOST_TRIES_TO_LACK) {
            return tell(BEYOND);
        }
        int outcome = glazing.leaveOut(tries);
        return outcome < 0 ? tell(outcome) : outcome;
    }

    public int bits(int i) {
        if (!drawing.isThere()) {
            return tell(NOTHING);
        }
        if (i < 0 || i >= GROUPS_OF_BITS) {
            return tell(BEYOND);
        }
        return glazing.leftFrom(BITS_AT_ONCE * i);
    }

    public int pick(int p) {
        if (!drawing.isThere()) {
            return tell(NOTHING);
        }
        if (!hasPane(p)) {
            return tell(BEYOND);
        }
        if (chosenTotal >= MOST_CHOSEN) {
            return tell(FULL);
        }
        chosen[chosenTotal] = p;
        chosenTotal++;
        return chosenTotal;
    }

    public int unpick() {
        if (!drawing.isThere()) {
            return tell(NOTHING);
        }
        int before = chosenTotal;
        chosenTotal = 0;
        return before;
    }

    public int sheets(int a, int b, boolean turns) {
        if (!drawing.isThere()) {
            return tell(NOTHING);
        }
        if (!isSide(a) || !isSide(b)) {
            return tell(BEYOND);
        }
        layOutBoxes(turns);
        int fewest = cutter.fewestSheets(a, b);
        return fewest < 0 ? tell(NONE) : fewest;
    }

    public int keep(int k) {
        if (!drawing.isThere()) {
            return tell(NOTHING);
        }
        if (!isPlace(k)) {
            return tell(BEYOND);
        }
        kept[k].copy(drawing);
        return 1;
    }

    public int back(int k) {
        if (!isPlace(k)) {
            return tell(BEYOND);
        }
        if (!kept[k].isThere()) {
            return tell(NOTHING);
        }
        drawing.copy(kept[k]);
        redraw();
        return panes.total;
    }

    public int alike(int k) {
        if (!isPlace(k)) {
            return tell(BEYOND);
        }
        if (!drawing.isThere() || !kept[k].isThere()) {
            return tell(NOTHING);
        }
        return likeness.turnings(drawing, kept[k]);
    }

    public int rack(int k, int p) {
        if (!isPlace(k)) {
            return tell(BEYOND);
        }
        if (p == -1) {
            rackKind[k] = EMPTY;
            return 1;
        }
        if (!drawing.isThere()) {
            return tell(NOTHING);
        }
        if (!hasPane(p)) {
            return tell(BEYOND);
        }
        rackKind[k] = glazing.kind[p];
        rackAllowed[k] = glazing.allowed[p];
        return 1;
    }

    public int as(int k, int kind) {
        if (!isPlace(k) || !isKind(kind)) {
            return tell(BEYOND);
        }
        if (rackKind[k] == EMPTY) {
            return tell(NOTHING);
        }
        // The kinds are numbered so that each one under another has the higher number.
        if (rackKind[k] < kind) {
            return tell(KIND);
        }
        return rackAllowed[k];
    }

    public int found(int finding) {
        if (finding >= 0 || finding < -FINDINGS) {
            return tell(BEYOND);
        }
        return answered[-finding];
    }

    /** Every finding goes through here, so that none is left uncounted. */
    private int tell(int finding) {
        if (finding < 0 && finding >= -FINDINGS) {
            answered[-finding]++;
        }
        return finding;
    }

    private boolean hasJoint(int i) {
        return i >= 0 && i < mesh.joints.total;
    }

    private boolean hasPane(int p) {
        return p >= 0 && p < panes.total;
    }

    private static boolean isPlace(int k) {
        return k >= 0 && k < PLACES;
    }

    private static boolean isKind(int kind) {
        return kind == CLEAR || kind == TINTED || kind == STREAKED;
    }

    private static boolean isSide(int length) {
        return length >= 1 && length <= LONGEST_SIDE;
    }

    /** Panes get other numbers when the lines change, so all that was said of them goes. */
    private void redraw() {
        mesh.lay(drawing);
        panes.find();
        glazing.begin(panes);
        chosenTotal = 0;
    }

    private void layOutBoxes(boolean turns) {
        cutter.clear();
        for (int i = 0; i < chosenTotal; i++) {
            int p = chosen[i];
            boolean turnable = turns && glazing.kind[p] != STREAKED;
            cutter.append(panes.boxWidth(p), panes.boxHeight(p), turnable);
        }
    }

    private static int greatestCommon(int a, int b) {
        int big = a;
        int small = b;
        // Euclid's steps for numbers below 2^31 are fewer than 50.
        for (int turn = 0; turn < 50 && small != 0; turn++) {
            int rest = big % small;
            big = small;
            small = rest;
        }
        return big;
    }

    /** The lines as drawn: the four sides, then the leads. A width of 0: there is no window. */
    private static final class Drawing {
        int width;
        int height;
        int lines;
        final int[] x;
        final int[] y;
        final int[] u;
        final int[] v;

        Drawing() {
            x = new int[MOST_LINES];
            y = new int[MOST_LINES];
            u = new int[MOST_LINES];
            v = new int[MOST_LINES];
        }

        void open(int w, int h) {
            width = w;
            height = h;
            lines = 0;
            append(0, 0, w, 0);
            append(w, 0, w, h);
            append(0, h, w, h);
            append(0, 0, 0, h);
        }

        boolean isThere() {
            return width > 0;
        }

        boolean hasPoint(int px, int py) {
            return px >= 0 && px <= width && py >= 0 && py <= height;
        }

        int leads() {
            return lines - SIDES;
        }

        void append(int fromX, int fromY, int toX, int toY) {
            if (lines >= MOST_LINES) {
                return;
            }
            x[lines] = fromX;
            y[lines] = fromY;
            u[lines] = toX;
            v[lines] = toY;
            lines++;
        }

        void dropLatest() {
            if (lines > SIDES) {
                lines--;
            }
        }

        void copy(Drawing other) {
            width = other.width;
            height = other.height;
            lines = other.lines;
            System.arraycopy(other.x, 0, x, 0, MOST_LINES);
            System.arraycopy(other.y, 0, y, 0, MOST_LINES);
            System.arraycopy(other.u, 0, u, 0, MOST_LINES);
            System.arraycopy(other.v, 0, v, 0, MOST_LINES);
        }
    }

    /**
     * The joints by number. Joint i is the point x / under, y / under: as two leads cross at
     * numbers with one denominator of at most 288, everything stays whole and small.
     */
    private static final class Joints {
        int total;
        final int[] x;
        final int[] y;
        final int[] under;

        Joints() {
            x = new int[MOST_JOINTS + 1];
            y = new int[MOST_JOINTS + 1];
            under = new int[MOST_JOINTS + 1];
        }

        void gather(Drawing drawing) {
            total = 0;
            for (int i = 0; i < drawing.lines; i++) {
                insert(drawing.x[i], drawing.y[i], 1);
                insert(drawing.u[i], drawing.v[i], 1);
            }
            for (int i = 0; i < drawing.lines; i++) {
                for (int j = 0; j < i; j++) {
                    insertCrossing(drawing, i, j);
                }
            }
        }

        private void insertCrossing(Drawing lines, int i, int j) {
            int ix = lines.u[i] - lines.x[i];
            int iy = lines.v[i] - lines.y[i];
            int jx = lines.u[j] - lines.x[j];
            int jy = lines.v[j] - lines.y[j];
            int whole = ix * jy - iy * jx;
            if (whole == 0) {
                return;
            }
            int sign = whole < 0 ? -1 : 1;
            int awayX = lines.x[j] - lines.x[i];
            int awayY = lines.y[j] - lines.y[i];
            int alongI = sign * (awayX * jy - awayY * jx);
            int alongJ = sign * (awayX * iy - awayY * ix);
            whole = sign * whole;
            if (alongI < 0 || alongI > whole || alongJ < 0 || alongJ > whole) {
                return;
            }
            insert(lines.x[i] * whole + alongI * ix, lines.y[i] * whole + alongI * iy, whole);
        }

        private void insert(int px, int py, int pUnder) {
            int common = greatestCommon(greatestCommon(px, py), pUnder);
            if (common < 1) {
                return;
            }
            ask(px / common, py / common, pUnder / common);
            int place = 0;
            while (place < total && order(place, ASKED) < 0) {
                place++;
            }
            boolean known = place < total && order(place, ASKED) == 0;
            if (known || total >= MOST_JOINTS) {
                return;
            }
            for (int i = total; i > place; i--) {
                take(i, i - 1);
            }
            take(place, ASKED);
            total++;
        }

        void ask(int px, int py, int pUnder) {
            x[ASKED] = px;
            y[ASKED] = py;
            under[ASKED] = pUnder;
        }

        private void take(int i, int j) {
            x[i] = x[j];
            y[i] = y[j];
            under[i] = under[j];
        }

        /** Below 0 if point i comes before point j (by y, then by x), 0 if they are the same. */
        int order(int i, int j) {
            int byY = y[i] * under[j] - y[j] * under[i];
            int byX = x[i] * under[j] - x[j] * under[i];
            return byY != 0 ? byY : byX;
        }

        /** Below 0 if point i lies lower than point j. */
        int heightOrder(int i, int j) {
            return y[i] * under[j] - y[j] * under[i];
        }

        int indexOf(int px, int py, int pUnder) {
            for (int i = 0; i < total; i++) {
                if (x[i] == px && y[i] == py && under[i] == pUnder) {
                    return i;
                }
            }
            return -1;
        }

        boolean liesOn(int i, Drawing lines, int line) {
            int startX = lines.x[line] * under[i];
            int startY = lines.y[line] * under[i];
            int endX = lines.u[line] * under[i];
            int endY = lines.v[line] * under[i];
            int dx = lines.u[line] - lines.x[line];
            int dy = lines.v[line] - lines.y[line];
            return dx * (y[i] - startY) == dy * (x[i] - startX)
                && isBetween(x[i], startX, endX) && isBetween(y[i], startY, endY);
        }

        private static boolean isBetween(int value, int end, int otherEnd) {
            return value >= Math.min(end, otherEnd) && value <= Math.max(end, otherEnd);
        }

        /** Above 0 if point c is on the left as one goes from a to b, below 0 if on the right. */
        long side(int a, int b, int c) {
            return (long) x[a] * (y[b] * under[c] - y[c] * under[b])
                - (long) y[a] * (x[b] * under[c] - x[c] * under[b])
                + (long) under[a] * (x[b] * y[c] - x[c] * y[b]);
        }

        int above(int top, int bottom) {
            int common = greatestCommon(top, bottom);
            return common < 1 ? top : top / common;
        }

        int below(int top, int bottom) {
            int common = greatestCommon(top, bottom);
            return common < 1 ? bottom : bottom / common;
        }
    }

    /** The pieces, each as two steps; the steps are sorted by the joint they leave, then by the other. */
    private static final class Pieces {
        final Joints joints;
        int steps;
        final int[] from;
        final int[] to;
        final int[] twin;
        final boolean[] firm;
        /** The steps that leave joint i are first[i] .. first[i + 1] - 1. */
        final int[] first;
        private final int[] firmEnds;
        private final boolean[] reached;
        private final long[] nextLow;
        private final long[] nextHigh;

        Pieces(Joints joints) {
            this.joints = joints;
            from = new int[MOST_STEPS];
            to = new int[MOST_STEPS];
            twin = new int[MOST_STEPS];
            firm = new boolean[MOST_STEPS];
            first = new int[MOST_JOINTS + 1];
            firmEnds = new int[MOST_JOINTS];
            reached = new boolean[MOST_JOINTS];
            nextLow = new long[MOST_JOINTS];
            nextHigh = new long[MOST_JOINTS];
        }

        void part(Drawing drawing) {
            for (int i = 0; i < joints.total; i++) {
                nextLow[i] = 0;
                nextHigh[i] = 0;
            }
            for (int line = 0; line < drawing.lines; line++) {
                joinAlong(drawing, line);
            }
            listSteps();
            pairSteps();
            reachFromSides();
            firmWhatIsReached();
            loosenDeadEnds();
        }

        /** Joints on one line follow each other by number, as they are numbered by y, then by x. */
        private void joinAlong(Drawing drawing, int line) {
            int before = -1;
            for (int i = 0; i < joints.total; i++) {
                if (joints.liesOn(i, drawing, line)) {
                    if (before >= 0) {
                        join(before, i);
                        join(i, before);
                    }
                    before = i;
                }
            }
        }

        private void join(int i, int j) {
            if (j < WORD) {
                nextLow[i] |= 1L << j;
            } else {
                nextHigh[i] |= 1L << (j - WORD);
            }
        }

        private boolean areJoined(int i, int j) {
            long word = j < WORD ? nextLow[i] : nextHigh[i];
            return ((word >>> (j % WORD)) & 1L) != 0;
        }

        private void listSteps() {
            steps = 0;
            for (int i = 0; i < joints.total; i++) {
                first[i] = steps;
                for (int j = 0; j < joints.total; j++) {
                    if (areJoined(i, j) && steps < MOST_STEPS) {
                        from[steps] = i;
                        to[steps] = j;
                        steps++;
                    }
                }
            }
            first[joints.total] = steps;
        }

        /** Every piece was joined both ways, so the twin is there; the 0 only keeps the index whole. */
        private void pairSteps() {
            for (int s = 0; s < steps; s++) {
                twin[s] = Math.max(0, stepBetween(to[s], from[s]));
            }
        }

        /** The sides hang together, so what can be reached from joint 0, a corner, leads to a side. */
        private void reachFromSides() {
            for (int i = 0; i < joints.total; i++) {
                reached[i] = i == 0;
            }
            boolean more = true;
            for (int round = 0; round < joints.total && more; round++) {
                more = false;
                for (int s = 0; s < steps; s++) {
                    if (reached[from[s]] && !reached[to[s]]) {
                        reached[to[s]] = true;
                        more = true;
                    }
                }
            }
        }

        private void firmWhatIsReached() {
            for (int i = 0; i < joints.total; i++) {
                firmEnds[i] = reached[i] ? endsAt(i) : 0;
            }
            for (int s = 0; s < steps; s++) {
                firm[s] = reached[from[s]];
            }
        }

        private void loosenDeadEnds() {
            boolean more = true;
            for (int round = 0; round < steps && more; round++) {
                more = false;
                for (int s = 0; s < steps; s++) {
                    if (firm[s] && firmEnds[from[s]] == 1) {
                        loosen(s);
                        more = true;
                    }
                }
            }
        }

        private void loosen(int step) {
            firm[step] = false;
            firm[twin[step]] = false;
            firmEnds[from[step]]--;
            firmEnds[to[step]]--;
        }

        int endsAt(int i) {
            return first[i + 1] - first[i];
        }

        int firmEndsAt(int i) {
            return firmEnds[i];
        }

        int looseSteps() {
            int loose = 0;
            for (int s = 0; s < steps; s++) {
                if (!firm[s]) {
                    loose++;
                }
            }
            return loose;
        }

        /** The step from joint i to joint j, -1 if no piece lies between them. */
        int stepBetween(int i, int j) {
            for (int s = first[i]; s < first[i + 1]; s++) {
                if (to[s] == j) {
                    return s;
                }
            }
            return -1;
        }

        /** The step that a walk takes after a firm one. */
        int after(int step) {
            int back = twin[step];
            int turning = to[step];
            int best = back;
            for (int s = first[turning]; s < first[turning + 1]; s++) {
                if (firm[s] && s != back && (best == back || comesSooner(back, s, best))) {
                    best = s;
                }
            }
            return best;
        }

        /**
         * Whether, turned clockwise from the step back round their common start, s comes before t.
         * What is on the right of back is less than half a turn away, what is on its left more.
         */
        private boolean comesSooner(int back, int s, int t) {
            int sideOfS = Long.signum(joints.side(from[back], to[back], to[s]));
            int sideOfT = Long.signum(joints.side(from[back], to[back], to[t]));
            if (sideOfS != sideOfT) {
                return sideOfS < sideOfT;
            }
            return joints.side(from[s], to[s], to[t]) < 0;
        }
    }

    /** The joints and pieces of one drawing. */
    private static final class Mesh {
        final Joints joints;
        final Pieces pieces;

        Mesh() {
            joints = new Joints();
            pieces = new Pieces(joints);
        }

        void lay(Drawing drawing) {
            joints.gather(drawing);
            pieces.part(drawing);
        }
    }

    /** The panes, each as the walk round it. */
    private static final class Panes {
        private static final int NOT_WALKED = -2;
        private static final int OUTSIDE = -1;

        private final Joints joints;
        private final Pieces pieces;
        int total;
        /** The pane on the left of each firm step. */
        private final int[] paneOf;
        /** Pane p's steps in turn are walk[start[p]] .. walk[start[p + 1] - 1]. */
        private final int[] walk;
        private final int[] start;
        private final ExactSum sum;

        Panes(Mesh mesh) {
            joints = mesh.joints;
            pieces = mesh.pieces;
            paneOf = new int[MOST_STEPS];
            walk = new int[MOST_STEPS];
            start = new int[MOST_PANES + 1];
            sum = new ExactSum();
        }

        void find() {
            for (int s = 0; s < pieces.steps; s++) {
                paneOf[s] = pieces.firm[s] ? NOT_WALKED : OUTSIDE;
            }
            follow(stepWithOutside(), OUTSIDE, 0);
            total = 0;
            start[0] = 0;
            // The steps are sorted, so each walk is met at its least step, and the walks by these.
            for (int s = 0; s < pieces.steps && total < MOST_PANES; s++) {
                if (paneOf[s] == NOT_WALKED) {
                    start[total + 1] = follow(s, total, start[total]);
                    total++;
                }
            }
        }

        /** Up along the left side from joint 0, the lower left corner, the outside is on the left. */
        private int stepWithOutside() {
            int step = 0;
            for (int s = pieces.first[0]; s < pieces.first[1]; s++) {
                if (joints.x[pieces.to[s]] == 0) {
                    step = s;
                }
            }
            return step;
        }

        private int follow(int firstStep, int number, int filledBefore) {
            int filled = filledBefore;
            int step = firstStep;
            for (int turn = 0; turn < pieces.steps && paneOf[step] == NOT_WALKED; turn++) {
                paneOf[step] = number;
                if (filled < MOST_STEPS) {
                    walk[filled] = step;
                    filled++;
                }
                step = pieces.after(step);
            }
            return filled;
        }

        int corners(int p) {
            return start[p + 1] - start[p];
        }

        int jointAtCorner(int p, int k) {
            return pieces.from[walk[start[p] + k]];
        }

        /** The pane on the other side of step k of pane p, below 0 if that is the outside. */
        int beyond(int p, int k) {
            return paneOf[pieces.twin[walk[start[p] + k]]];
        }

        int boxLeft(int p) {
            int least = LONGEST_SIDE;
            for (int k = 0; k < corners(p); k++) {
                int i = jointAtCorner(p, k);
                least = Math.min(least, wholeBelow(joints.x[i], joints.under[i]));
            }
            return least;
        }

        int boxBottom(int p) {
            int least = LONGEST_SIDE;
            for (int k = 0; k < corners(p); k++) {
                int i = jointAtCorner(p, k);
                least = Math.min(least, wholeBelow(joints.y[i], joints.under[i]));
            }
            return least;
        }

        int boxWidth(int p) {
            int most = 0;
            for (int k = 0; k < corners(p); k++) {
                int i = jointAtCorner(p, k);
                most = Math.max(most, wholeAbove(joints.x[i], joints.under[i]));
            }
            return most - boxLeft(p);
        }

        int boxHeight(int p) {
            int most = 0;
            for (int k = 0; k < corners(p); k++) {
                int i = jointAtCorner(p, k);
                most = Math.max(most, wholeAbove(joints.y[i], joints.under[i]));
            }
            return most - boxBottom(p);
        }

        private static int wholeBelow(int top, int bottom) {
            return bottom < 1 ? top : top / bottom;
        }

        private static int wholeAbove(int top, int bottom) {
            return bottom < 1 ? top : (top + bottom - 1) / bottom;
        }

        /** Along how many pieces p and q touch. */
        int touches(int p, int q) {
            int steps = 0;
            for (int k = 0; k < corners(p); k++) {
                if (beyond(p, k) == q) {
                    steps++;
                }
            }
            // Of a piece with p on both sides both steps are in the walk.
            return p == q ? steps / 2 : steps;
        }

        int touchesOthers(int p) {
            int steps = 0;
            for (int k = 0; k < corners(p); k++) {
                int q = beyond(p, k);
                if (q >= 0 && q != p) {
                    steps++;
                }
            }
            return steps;
        }

        /** The whole part of a million times the area of pane p: half the sum of its corners' cross products. */
        long millionths(int p) {
            sum.clear();
            for (int k = start[p]; k < start[p + 1]; k++) {
                int a = pieces.from[walk[k]];
                int b = pieces.to[walk[k]];
                long cross = (long) joints.x[a] * joints.y[b] - (long) joints.x[b] * joints.y[a];
                sum.plus(500000L * cross, (long) joints.under[a] * joints.under[b]);
            }
            return sum.wholePart();
        }

        /** The pane in which the point lies, -1 if it is on a firm piece. */
        int around(int px, int py, int pUnder) {
            joints.ask(px, py, pUnder);
            for (int s = 0; s < pieces.steps; s++) {
                if (pieces.firm[s] && isOn(s)) {
                    return -1;
                }
            }
            for (int p = 0; p < total; p++) {
                if (isInside(p)) {
                    return p;
                }
            }
            return -1;
        }

        private boolean isOn(int step) {
            int low = Math.min(pieces.from[step], pieces.to[step]);
            int high = Math.max(pieces.from[step], pieces.to[step]);
            return joints.side(low, high, ASKED) == 0
                && joints.order(low, ASKED) <= 0
                && joints.order(ASKED, high) <= 0;
        }

        /** A ray to the right leaves a pane once more than it enters it; a piece walked both ways counts twice. */
        private boolean isInside(int p) {
            boolean inside = false;
            for (int k = start[p]; k < start[p + 1]; k++) {
                if (isCrossed(walk[k])) {
                    inside = !inside;
                }
            }
            return inside;
        }

        /** Whether the ray crosses the step, to which its lower end belongs and its upper one doesn't. */
        private boolean isCrossed(int step) {
            int low = Math.min(pieces.from[step], pieces.to[step]);
            int high = Math.max(pieces.from[step], pieces.to[step]);
            return joints.heightOrder(low, ASKED) <= 0
                && joints.heightOrder(ASKED, high) < 0
                && joints.side(low, high, ASKED) > 0;
        }
    }

    /**
     * A sum of fractions whose denominators are products of two numbers up to 288, of which the
     * whole part is exact. The common denominator of all such (below 2^840) is too large for a
     * long, so the parts below 1 are added as binary fractions of 960 places, each cut off.
     */
    private static final class ExactSum {
        private static final int GROUPS = 32;
        private static final int GROUP_PLACES = 30;

        private long whole;
        private int added;
        private final long[] groups;

        ExactSum() {
            groups = new long[GROUPS];
        }

        void clear() {
            whole = 0;
            added = 0;
            for (int i = 0; i < GROUPS; i++) {
                groups[i] = 0;
            }
        }

        void plus(long top, long bottom) {
            if (bottom < 1) {
                return;
            }
            whole += Math.floorDiv(top, bottom);
            long rest = Math.floorMod(top, bottom);
            for (int i = 0; i < GROUPS; i++) {
                long wide = rest << GROUP_PLACES;
                groups[i] += wide / bottom;
                rest = wide % bottom;
            }
            added++;
        }

        /**
         * What was cut off is less than one in the last place for each fraction. Giving that back
         * lifts a sum that is whole to that whole number or hardly above it, and can't lift
         * another one to the next whole number, which is at least 2^-840 away.
         */
        long wholePart() {
            long carry = added;
            for (int i = GROUPS - 1; i >= 0; i--) {
                carry = (groups[i] + carry) >> GROUP_PLACES;
            }
            return whole + carry;
        }
    }

    /** The glass of the panes, and the search for colourings. */
    private static final class Glazing {
        private static final int NOT_THERE = 0;
        private static final int THERE = 1;

        private int total;
        final int[] kind;
        final int[] allowed;
        final int[] colour;
        /** Bits: the other panes that a pane touches. */
        private final long[] nearLow;
        private final long[] nearHigh;
        /** Bits: the panes that have a colour in the search. */
        private final long[] paintedLow;
        private final long[] paintedHigh;
        /** The panes that the search goes over, what each has in it, and what it tries next. */
        private final int[] searched;
        private final int[] painted;
        private final int[] upcoming;
        private final boolean[] left;
        private final boolean[] leftByLatest;

        Glazing() {
            kind = new int[MOST_PANES];
            allowed = new int[MOST_PANES];
            colour = new int[MOST_PANES];
            nearLow = new long[MOST_PANES];
            nearHigh = new long[MOST_PANES];
            paintedLow = new long[COLOURS];
            paintedHigh = new long[COLOURS];
            searched = new int[MOST_PANES];
            painted = new int[MOST_PANES];
            upcoming = new int[MOST_PANES];
            left = new boolean[MOST_PANES];
            leftByLatest = new boolean[MOST_PANES];
        }

        void begin(Panes panes) {
            total = panes.total;
            for (int p = 0; p < total; p++) {
                put(p, CLEAR, ALL_COLOURS);
                nearLow[p] = 0;
                nearHigh[p] = 0;
                for (int k = 0; k < panes.corners(p); k++) {
                    markNear(p, panes.beyond(p, k));
                }
            }
            for (int p = 0; p < MOST_PANES; p++) {
                leftByLatest[p] = false;
            }
        }

        /** A pane that touches itself asks nothing of its colour, nor does the outside. */
        private void markNear(int p, int q) {
            if (q < 0 || q == p) {
                return;
            }
            if (q < WORD) {
                nearLow[p] |= 1L << q;
            } else {
                nearHigh[p] |= 1L << (q - WORD);
            }
        }

        void put(int p, int newKind, int told) {
            kind[p] = newKind;
            allowed[p] = newKind == CLEAR ? ALL_COLOURS : told & ALL_COLOURS;
            colour[p] = NO_COLOUR;
        }

        int colourAll(int tries) {
            for (int p = 0; p < total; p++) {
                left[p] = true;
            }
            int outcome = search(tries);
            if (outcome == SPENT) {
                return SPENT;
            }
            for (int p = 0; p < total; p++) {
                colour[p] = outcome == THERE ? painted[p] : NO_COLOUR;
            }
            return outcome;
        }

        int leaveOut(int tries) {
            for (int p = 0; p < total; p++) {
                left[p] = true;
            }
            int outcome = search(tries);
            if (outcome != NOT_THERE) {
                return outcome == SPENT ? SPENT : NONE;
            }
            int stay = 0;
            for (int p = 0; p < total; p++) {
                left[p] = false;
                outcome = search(tries);
                if (outcome == SPENT) {
                    return SPENT;
                }
                if (outcome == THERE) {
                    left[p] = true;
                    stay++;
                }
            }
            for (int p = 0; p < total; p++) {
                leftByLatest[p] = left[p];
            }
            return stay;
        }

        int leftFrom(int firstPane) {
            int bits = 0;
            for (int k = 0; k < BITS_AT_ONCE && firstPane + k < MOST_PANES; k++) {
                if (leftByLatest[firstPane + k]) {
                    bits |= 1 << k;
                }
            }
            return bits;
        }

        /** Over the panes that are left: THERE, NOT_THERE or SPENT. */
        private int search(int tries) {
            int panes = listSearched();
            int place = 0;
            int done = 0;
            // A turn is a try, or goes back from a pane that a try led to, or is the last.
            for (int turn = 0; turn < 2 * tries + 3 && place < panes; turn++) {
                int p = searched[place];
                int c = nextAllowed(p, upcoming[place]);
                if (c < COLOURS) {
                    if (done >= tries) {
                        return SPENT;
                    }
                    done++;
                    upcoming[place] = c + 1;
                    if (differs(p, c)) {
                        paint(p, c);
                        place++;
                    }
                } else if (place == 0) {
                    return NOT_THERE;
                } else {
                    upcoming[place] = 0;
                    place--;
                    unpaint(searched[place]);
                }
            }
            return place < panes ? SPENT : THERE;
        }

        private int listSearched() {
            int panes = 0;
            for (int p = 0; p < total; p++) {
                if (left[p]) {
                    searched[panes] = p;
                    upcoming[panes] = 0;
                    panes++;
                }
            }
            for (int c = 0; c < COLOURS; c++) {
                paintedLow[c] = 0;
                paintedHigh[c] = 0;
            }
            return panes;
        }

        /** The lowest allowed colour of pane p from c on, COLOURS if there is none. */
        private int nextAllowed(int p, int c) {
            for (int next = c; next < COLOURS; next++) {
                if ((allowed[p] >> next & 1) != 0) {
                    return next;
                }
            }
            return COLOURS;
        }

        private boolean differs(int p, int c) {
            return ((nearLow[p] & paintedLow[c]) | (nearHigh[p] & paintedHigh[c])) == 0;
        }

        private void paint(int p, int c) {
            painted[p] = c;
            if (p < WORD) {
                paintedLow[c] |= 1L << p;
            } else {
                paintedHigh[c] |= 1L << (p - WORD);
            }
        }

        private void unpaint(int p) {
            int c = painted[p];
            if (p < WORD) {
                paintedLow[c] &= ~(1L << p);
            } else {
                paintedHigh[c] &= ~(1L << (p - WORD));
            }
        }
    }

    /** Which turnings take one window to another. */
    private static final class Likeness {
        private final Mesh mesh;
        private final Mesh other;
        /** The joint of the other window to which a turning takes each joint. */
        private final int[] image;

        Likeness(Mesh mesh) {
            this.mesh = mesh;
            other = new Mesh();
            image = new int[MOST_JOINTS];
        }

        int turnings(Drawing drawing, Drawing goal) {
            other.lay(goal);
            int fitting = 0;
            for (int quarters = 0; quarters < 4; quarters++) {
                boolean lies = quarters % 2 != 0;
                int width = lies ? drawing.height : drawing.width;
                int height = lies ? drawing.width : drawing.height;
                if (width == goal.width && height == goal.height) {
                    fitting += fits(drawing, quarters, false) ? 1 : 0;
                    fitting += fits(drawing, quarters, true) ? 1 : 0;
                }
            }
            return fitting;
        }

        private boolean fits(Drawing drawing, int quarters, boolean over) {
            return mesh.joints.total == other.joints.total
                && mesh.pieces.steps == other.pieces.steps
                && takesJoints(drawing, quarters, over)
                && takesPieces();
        }

        private boolean takesJoints(Drawing drawing, int quarters, boolean over) {
            for (int i = 0; i < mesh.joints.total; i++) {
                image[i] = imageOf(i, drawing, quarters, over);
                if (image[i] < 0) {
                    return false;
                }
            }
            return true;
        }

        private int imageOf(int i, Drawing drawing, int quarters, boolean over) {
            int under = mesh.joints.under[i];
            int x = mesh.joints.x[i];
            int y = mesh.joints.y[i];
            int width = drawing.width * under;
            int height = drawing.height * under;
            for (int turn = 0; turn < quarters; turn++) {
                int turnedX = height - y;
                y = x;
                x = turnedX;
                int turnedWidth = height;
                height = width;
                width = turnedWidth;
            }
            return other.joints.indexOf(over ? width - x : x, y, under);
        }

        private boolean takesPieces() {
            Pieces pieces = mesh.pieces;
            for (int s = 0; s < pieces.steps; s++) {
                if (other.pieces.stepBetween(image[pieces.from[s]], image[pieces.to[s]]) < 0) {
                    return false;
                }
            }
            return true;
        }
    }

    /** Boxes that are cut straight through from sheets; sets of boxes are bits. */
    private static final class Cutter {
        private static final int SETS = 1 << MOST_CHOSEN;
        private static final int ROW = LONGEST_SIDE + 1;
        /** Above the heights of all boxes together, so that it says "not at all". */
        private static final int TOO_HIGH = 1000;
        private static final int TOO_MANY = 1000;

        private int boxes;
        private final int[] wide;
        private final int[] high;
        private final boolean[] turnable;
        /** Of a set and a width: the least height of a sheet from which the set can be cut. */
        private final int[] leastHeight;
        private final int[] fewest;

        Cutter() {
            wide = new int[MOST_CHOSEN];
            high = new int[MOST_CHOSEN];
            turnable = new boolean[MOST_CHOSEN];
            leastHeight = new int[SETS * ROW];
            fewest = new int[SETS];
        }

        void clear() {
            boxes = 0;
        }

        void append(int boxWidth, int boxHeight, boolean mayTurn) {
            if (boxes >= MOST_CHOSEN) {
                return;
            }
            wide[boxes] = boxWidth;
            high[boxes] = boxHeight;
            turnable[boxes] = mayTurn;
            boxes++;
        }

        /** -1 if there is a box that is too large. */
        int fewestSheets(int sheetWidth, int sheetHeight) {
            int sets = 1 << boxes;
            for (int set = 1; set < sets; set++) {
                for (int width = 1; width <= sheetWidth; width++) {
                    leastHeight[set * ROW + width] = heightFor(set, width);
                }
            }
            fewest[0] = 0;
            for (int set = 1; set < sets; set++) {
                fewest[set] = fewestFor(set, sheetWidth, sheetHeight);
            }
            return fewest[sets - 1] >= TOO_MANY ? -1 : fewest[sets - 1];
        }

        private int fewestFor(int set, int sheetWidth, int sheetHeight) {
            int best = TOO_MANY;
            for (int part = 1; part <= set; part++) {
                if ((part & set) == part && leastHeight[part * ROW + sheetWidth] <= sheetHeight) {
                    best = Math.min(best, 1 + fewest[set ^ part]);
                }
            }
            return best;
        }

        /** All smaller sets, and all smaller widths of this one, are known. */
        private int heightFor(int set, int width) {
            if ((set & (set - 1)) == 0) {
                return heightForOne(set, width);
            }
            int best = TOO_HIGH;
            for (int part = 1; part < set; part++) {
                if ((part & set) == part) {
                    best = Math.min(best, heightForTwo(part, set ^ part, width));
                }
            }
            return best;
        }

        private int heightForOne(int set, int width) {
            int best = TOO_HIGH;
            for (int i = 0; i < boxes; i++) {
                if (set == 1 << i) {
                    if (wide[i] <= width) {
                        best = high[i];
                    }
                    if (turnable[i] && high[i] <= width) {
                        best = Math.min(best, wide[i]);
                    }
                }
            }
            return best;
        }

        /** The first cut that has boxes on both sides lies level, or upright at one of the whole numbers. */
        private int heightForTwo(int part, int rest, int width) {
            int best = leastHeight[part * ROW + width] + leastHeight[rest * ROW + width];
            for (int cut = 1; cut < width; cut++) {
                int left = leastHeight[part * ROW + cut];
                int right = leastHeight[rest * ROW + width - cut];
                best = Math.min(best, Math.max(left, right));
            }
            return best;
        }
    }
}

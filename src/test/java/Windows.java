/** Windows that several sentences are tested with, as the beginnings of runs. */
final class Windows {
    /** Joints 0: 0, 0. 1: 4, 0. 2: 2, 2. 3: 0, 4. 4: 4, 4. Panes 0 below, 1 left, 2 right, 3 above. */
    static final String CROSS = """
        window(4, 4): 1
        lead(0, 0, 4, 4): 0
        lead(0, 4, 4, 0): 1
        """;

    /**
     * A triangle (pane 1) on a stalk from the lower left corner. Joints 0: 0, 0. 1: 3, 0. 2: 1, 1.
     * 3: 2, 1. 4: 2, 2. 5: 0, 3. 6: 3, 3.
     */
    static final String STALK = """
        window(3, 3): 1
        lead(1, 1, 2, 1): 0
        lead(2, 1, 2, 2): 1
        lead(2, 2, 1, 1): 2
        lead(0, 0, 1, 1): 3
        """;

    /**
     * A triangle (pane 1) that stands on the lower side with one corner. Joints 0: 0, 0. 1: 2, 0.
     * 2: 4, 0. 3: 1, 1. 4: 3, 1. 5: 0, 4. 6: 4, 4.
     */
    static final String PENDANT = """
        window(4, 4): 1
        lead(2, 0, 1, 1): 0
        lead(1, 1, 3, 1): 1
        lead(3, 1, 2, 0): 2
        """;

    /** Eight panes round joint 4, which is 1, 1; the joints are the nine grid points. */
    static final String STAR = """
        window(2, 2): 1
        lead(0, 0, 2, 2): 0
        lead(0, 2, 2, 0): 1
        lead(0, 1, 2, 1): 2
        lead(1, 0, 1, 2): 3
        """;

    /** Four panes round a fifth one of 1 by 1; no straight cut goes through. */
    static final String PINWHEEL = """
        window(3, 3): 1
        lead(0, 1, 2, 1): 0
        lead(2, 0, 2, 2): 1
        lead(1, 2, 3, 2): 2
        lead(1, 1, 1, 3): 3
        """;

    /**
     * As many leads as there may be, all right through, each two of which cross at a place of their
     * own, and no two begin at one place: 4 + 28 + 91 joints, 32 + 14 * 14 pieces, 1 + 14 + 91
     * panes, more than which no window can have.
     */
    static final String FULLEST = """
        window(12, 12): 1
        lead(12, 4, 0, 9): 0
        lead(12, 8, 0, 3): 1
        lead(12, 6, 0, 8): 2
        lead(8, 0, 9, 12): 3
        lead(0, 2, 12, 9): 4
        lead(9, 0, 8, 12): 5
        lead(5, 0, 12, 11): 6
        lead(4, 0, 12, 10): 7
        lead(4, 12, 10, 0): 8
        lead(7, 0, 11, 12): 9
        lead(12, 1, 3, 12): 10
        lead(0, 10, 12, 3): 11
        lead(2, 12, 12, 2): 12
        lead(0, 5, 12, 7): 13
        """;

    private Windows() {
    }
}

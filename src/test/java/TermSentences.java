/** "What it is" and "Terms". */
final class TermSentences {
    private TermSentences() {
    }

    static void tell(Sentences s) {
        s.section("What it is");
        s.of("An object is used for at most 512 calls after it has been made",
            """
            window(4, 4): 1
            count(8..517): -1
            found(-1): 510
            """,
            """
            found(0..509): -1
            found(-1): 510
            window(12, 12): 1
            """);
        s.section("Terms");
        findings(s);
        drawing(s);
        loose(s);
        walks(s);
        panes(s);
        glass(s);
        cutting(s);
    }

    private static void findings(Sentences s) {
        s.of("FINDINGS are answers below 0: -1 BEYOND, -2 SIZE, -3 FULL, -4 NOTHING, -5 KIND, -6 SPENT, -7 NONE.", """
            count(0): -4
            window(0, 1): -1
            window(-1, 1): -2
            window(2, 2): 1
            glass(0, 3, 0): -5
            colours(0): -6
            lack(1): -7
            pick(0): 1 2 3 4 5 6 -3
            found(-7..-1): 1
            """);
        s.of("Each act tells its findings in the order in which they are asked", """
            lead(0, 0, 13, 0): -4
            lead(0, 0, 0, 0): -4
            count(8): -4
            joint(-1, 6): -4
            piece(-1, -1): -4
            corner(-1, -1): -4
            pane(-1, 10): -4
            area(-1): -4
            touch(-1, -1): -4
            at(0, 0): -4
            glass(-1, 3, 0): -4
            colours(-1): -4
            lack(-1): -4
            bits(10): -4
            pick(-1): -4
            sheets(0, 0, true): -4
            keep(4): -4
            rack(0, -2): -4
            found(-4): 18
            window(-1, 13): -2
            window(13, -1): -2
            window(0, -1): -2
            window(-1, 0): -2
            found(-2): 4
            back(4): -1
            alike(4): -1
            rack(4, 0): -1
            as(4, 0): -1
            as(0, 3): -1
            found(-1): 5
            """, """
            window(4, 4): 1
            lead(0, 0, 4, 4): 0 1 2 3 4 5 6 7 8 9 10 11 12 13
            lead(5, 0, 0, 0): -1
            lead(0, 0, 0, 5): -1
            lead(5, 5, 5, 5): -1
            lead(2, 2, 2, 2): -2
            lead(0, 0, 1, 1): -3
            pick(0): 1 2 3 4 5 6
            pick(2): -1
            pick(1): -3
            glass(2, 3, 0): -1
            glass(0, 3, 0): -5
            sheets(0, 1, true): -1
            sheets(1, 13, true): -1
            sheets(1, 1, true): -7
            at(0, 4): -1
            at(8, 8): -1
            at(4, 4): -7
            lack(2): -6
            lack(3): -7
            as(0, 3): -1
            as(0, 0): -4
            rack(0, 0): 1
            as(0, 3): -1
            as(0, 2): -5
            back(4): -1
            back(0): -4
            alike(4): -1
            alike(0): -4
            found(-1): 13
            found(-2): 1
            found(-3): 2
            found(-4): 3
            found(-5): 2
            found(-6): 1
            found(-7): 3
            """);
    }

    private static void drawing(Sentences s) {
        s.of("THE WINDOW is w wide and h high (1 .. 12 each)", """
            window(12, 1): 1
            count(0..1): 12 1
            lead(12, 1, 0, 0): 0
            lead(0, 1, 12, 0): 1
            lead(13, 1, 0, 0): -1
            lead(12, 2, 0, 0): -1
            lead(1, 12, 0, 0): -1
            """, """
            window(1, 12): 1
            count(0..1): 1 12
            lead(1, 12, 0, 0): 0
            lead(12, 1, 0, 0): -1
            """, """
            window(1, 1): 1
            lead(0, 0, 1, 1): 0
            lead(0, 0, 2, 2): -1
            """);
        s.of("LEADS 0, 1, .. (at most 14) are straight between two grid points", """
            window(3, 3): 1
            count(2): 0
            undo(): -4
            lead(0, 0, 3, 3): 0 1 2 3 4 5 6 7 8 9 10 11 12 13 -3
            count(2): 14
            """, Windows.FULLEST + """
            lead(0, 0, 12, 12): -3
            count(2): 14
            """);
        s.of("JOINTS are all points at which a lead or side ends, or where one has a point with another one in common", """
            window(4, 4): 1
            count(3): 4
            lead(1, 1, 2, 1): 0
            count(3): 6
            lead(2, 2, 3, 3): 1
            count(3): 8
            """, """
            window(4, 4): 1
            lead(0, 1, 4, 1): 0
            lead(2, 0, 2, 3): 1
            count(3): 9
            """, """
            window(6, 6): 1
            lead(1, 1, 2, 2): 0
            lead(4, 1, 3, 2): 1
            count(3): 8
            lead(0, 3, 6, 3): 2
            count(3): 10
            """, """
            window(6, 2): 1
            lead(1, 1, 4, 1): 0
            lead(2, 1, 5, 1): 1
            count(3): 8
            lead(5, 1, 6, 1): 2
            count(3): 9
            lead(0, 1, 6, 1): 3
            count(3): 10
            """, """
            window(4, 4): 1
            lead(0, 2, 4, 2): 0
            lead(2, 2, 2, 3): 1
            count(3): 8
            lead(2, 2, 2, 1): 2
            count(3): 9
            lead(0, 0, 4, 4): 3
            count(3): 9
            """, """
            window(4, 4): 1
            lead(0, 0, 4, 0): 0
            lead(4, 4, 4, 0): 1
            count(3): 4
            lead(1, 0, 3, 0): 2
            count(3): 6
            lead(1, 0, 1, 4): 3
            count(3): 7
            """, Windows.FULLEST + """
            count(3): 123
            """);
        s.of("PIECES: each lead and side is parted by all joints that lie on it", """
            window(4, 4): 1
            count(4): 4
            lead(0, 2, 4, 2): 0 1 2
            count(4): 7
            joint(2, 4): 3
            lead(1, 2, 3, 2): 3
            count(4): 9
            joint(2, 4): 3
            joint(3, 4): 2
            piece(2, 3): 2
            piece(2, 4): 0
            piece(2, 5): 0
            """, """
            window(4, 4): 1
            lead(0, 0, 4, 0): 0
            lead(4, 0, 0, 0): 1
            count(4): 4
            joint(0, 4): 2
            lead(2, 0, 2, 1): 2
            count(4): 6
            piece(0, 2): 0
            """, """
            window(6, 2): 1
            lead(1, 1, 4, 1): 0
            lead(2, 1, 5, 1): 1
            count(4): 7
            """, Windows.FULLEST + """
            count(4): 228
            """);
        s.of("Joints are numbered from 0 on by y, then by x.", """
            window(4, 1): 1
            lead(3, 0, 4, 1): 0
            lead(4, 0, 3, 1): 1
            lead(0, 0, 1, 1): 2
            lead(1, 0, 0, 1): 3
            count(3): 10
            joint(0..3, 0): 0 1 3 4
            joint(0..3, 2): 0
            joint(4, 0..3): 1 2 1 2
            joint(5, 0..3): 7 2 1 2
            joint(6..9, 0): 0 1 3 4
            joint(6..9, 2): 1
            """, """
            window(3, 1): 1
            lead(0, 0, 2, 1): 0
            lead(1, 0, 0, 1): 1
            lead(2, 0, 3, 1): 2
            lead(3, 0, 2, 1): 3
            joint(4, 0..3): 2 3 1 3
            joint(5, 0..3): 5 2 1 2
            """);
    }

    private static void loose(Sentences s) {
        s.of("LOOSE are the pieces from which no row of pieces leads to a side; then, as long as there are such", """
            window(4, 4): 1
            count(5): 0
            lead(1, 1, 3, 1): 0
            count(5): 1
            piece(2, 3): 1
            lead(3, 1, 2, 3): 1
            count(5): 2
            lead(2, 3, 1, 1): 2
            count(5): 3
            count(6): 1
            lead(2, 3, 2, 4): 3
            count(5): 0
            count(6): 2
            """, """
            window(4, 4): 1
            lead(0, 2, 1, 2): 0
            lead(1, 2, 2, 2): 1
            lead(2, 2, 3, 2): 2
            lead(3, 2, 3, 3): 3
            count(5): 4
            lead(3, 3, 2, 2): 4
            count(5): 0
            count(6): 2
            undo(): 4
            count(5): 4
            count(6): 1
            """, """
            window(8, 4): 1
            lead(1, 1, 2, 1): 0
            lead(2, 1, 2, 2): 1
            lead(2, 2, 1, 1): 2
            lead(5, 1, 6, 1): 3
            lead(6, 1, 6, 2): 4
            lead(6, 2, 5, 1): 5
            lead(2, 1, 5, 1): 6
            count(5): 7
            count(6): 1
            lead(6, 1, 8, 1): 7
            count(5): 0
            count(6): 3
            """, """
            window(4, 4): 1
            lead(0, 2, 4, 2): 0
            lead(2, 1, 2, 3): 1
            count(5): 2
            joint(4, 4..5): 4 2
            """);
        s.of("FIRM are all others.", Windows.PENDANT + """
            count(5): 0
            piece(1, 3): 2
            """, """
            window(4, 4): 1
            lead(1, 0, 3, 0): 0
            count(5): 0
            piece(0..2, 1): 2 0 2
            lead(0, 0, 4, 4): 1
            count(5): 0
            """, Windows.FULLEST + """
            count(5): 0
            """);
    }

    private static void walks(Sentences s) {
        s.of("WALKS: from a joint a to a joint b along a firm piece, then from b along the firm piece that comes next", Windows.STAR + """
            count(6): 8
            joint(4, 5): 8
            corner(0, 0..2): 0 1 4
            corner(1, 0..2): 0 4 3
            corner(2, 0..2): 1 2 4
            corner(3, 0..2): 2 5 4
            corner(4, 0..2): 3 4 6
            corner(5, 0..2): 4 5 8
            corner(6, 0..2): 4 7 6
            corner(7, 0..2): 4 8 7
            """, Windows.PENDANT + """
            corner(0, 0..7): 0 1 3 4 1 2 6 5
            corner(1, 0..2): 1 4 3
            """);
        s.of("All steps (each firm piece both ways) are parted into walks.", Windows.CROSS + """
            lead(2, 2, 3, 2): 2
            count(4..5): 9 1
            pane(0..3, 0): 3
            """, Windows.STALK + """
            count(4): 8
            pane(0..1, 0): 9 3
            """);
        s.of("All but one of them (that of which the outside is on the left) are PANES", """
            window(1, 1): 1
            count(6): 1
            corner(0, 0..3): 0 1 3 2
            area(0): 1000000
            pane(0, 8..9): 0
            lead(0, 0, 1, 0): 0
            count(6): 1
            pane(0, 0): 4
            """, Windows.FULLEST + """
            count(6): 106
            """);
        s.of("A pane's walk begins with its least step (by the joint it begins at, then by the joint it leads to)", """
            window(2, 2): 1
            lead(0, 2, 2, 0): 0
            corner(0, 0..2): 0 1 2
            corner(1, 0..2): 1 3 2
            """, """
            window(4, 4): 1
            lead(1, 0, 0, 4): 0
            lead(1, 0, 4, 4): 1
            corner(0, 0..2): 0 1 3
            corner(1, 0..2): 1 2 4
            corner(2, 0..2): 1 4 3
            """);
        s.of("Its CORNERS are the joints at which its steps begin, in turn (a joint comes more than once, if the walk does).",
            Windows.STALK + """
            corner(0, 0..8): 0 1 6 5 0 2 4 3 2
            corner(0, 9): -1
            corner(1, 0..2): 2 3 4
            """, """
            window(4, 2): 1
            lead(2, 0, 2, 1): 0
            pane(0, 0): 5
            corner(0, 0..4): 0 1 2 5 4
            """);
    }

    private static void panes(Sentences s) {
        s.of("A pane's AREA is that of what it goes round (exactly; all areas together are w h).", """
            window(2, 6): 1
            lead(0, 5, 1, 2): 0
            lead(2, 4, 0, 3): 1
            lead(1, 3, 2, 5): 2
            count(5): 2
            pane(0, 0): 6
            area(0): 7000000
            """, """
            window(2, 1): 1
            lead(0, 0, 2, 1): 0
            lead(1, 0, 0, 1): 1
            area(0..3): 166666 333333 833333 666666
            """, Windows.PENDANT + """
            area(0..1): 15000000 1000000
            """, Windows.STALK + """
            area(0..1): 8500000 500000
            """);
        s.of("Two panes TOUCH along each firm piece of which one step is the one's, the other step the other's.", Windows.PENDANT + """
            touch(0, 1): 3
            touch(1, 0): 3
            touch(0, 0): 0
            touch(1, 1): 0
            """, """
            window(4, 4): 1
            lead(0, 2, 4, 2): 0
            touch(0, 1): 1
            lead(2, 2, 2, 3): 1
            touch(0, 1): 2
            lead(1, 2, 1, 1): 2
            touch(0, 1): 3
            """, Windows.STAR + """
            touch(0, 0..7): 0 1 1 0 0 0 0 0
            """);
        s.of("A pane's BOX is the least upright one with whole corners in which it lies.", """
            window(6, 1): 1
            lead(0, 0, 6, 1): 0
            lead(1, 0, 3, 1): 1
            pane(0, 1..4): 0 0 2 1
            pane(1, 1..4): 0 0 3 1
            pane(2, 1..4): 1 0 5 1
            pane(3, 1..4): 1 0 5 1
            """, """
            window(12, 12): 1
            lead(2, 12, 1, 0): 0
            lead(11, 12, 0, 5): 1
            lead(10, 0, 0, 7): 2
            count(6): 7
            pane(4, 0..4): 3 1 5 1 1
            """, """
            window(4, 4): 1
            lead(4, 0, 0, 2): 0
            lead(4, 0, 0, 4): 1
            pane(0, 1..4): 0 0 4 2
            pane(1, 1..4): 0 0 4 4
            """, """
            window(12, 12): 1
            pane(0, 1..4): 0 0 12 12
            lead(1, 1, 2, 1): 0
            pane(0, 1..4): 0 0 12 12
            """);
    }

    private static void glass(Sentences s) {
        s.of("GLASS: each pane has a kind: 0 CLEAR, 1 TINTED, 2 STREAKED, and ALLOWED colours", Windows.CROSS + """
            pane(0..3, 5): 0
            pane(0..3, 6): 255
            pane(0..3, 7): 8
            glass(0, 1, 128): 1
            glass(1, 2, 0): 1
            glass(2, 0, 1): 1
            pane(0..3, 5): 1 2 0 0
            pane(0..3, 6): 128 0 255 255
            lead(0, 0, 1, 0): 2
            pane(0..3, 5): 0
            pane(0..3, 6): 255
            colours(100): 1
            pane(0..3, 7): 0 1 1 0
            glass(3, 1, 1): 1
            undo(): 2
            pane(0..3, 5): 0
            pane(0..3, 6): 255
            pane(0..3, 7): 8
            """);
        s.of("A COLOURING gives each pane an allowed colour, other ones to two that touch", Windows.STALK + """
            pane(0, 9): 1
            glass(0, 1, 1): 1
            glass(1, 1, 1): 1
            colours(100): 0
            glass(1, 1, 128): 1
            colours(2): 1
            pane(0..1, 7): 0 7
            """, Windows.CROSS + """
            glass(0, 2, 8): 1
            glass(3, 1, 8): 1
            colours(4): 1
            pane(0..3, 7): 3 0 0 3
            """);
        s.of("THE SEARCH for one, over some panes in order", Windows.CROSS + """
            glass(0, 1, 3): 1
            glass(1, 1, 5): 1
            glass(2, 2, 1): 1
            colours(8): -6
            colours(9): 1
            pane(0..3, 7): 1 0 0 1
            """, Windows.CROSS + """
            glass(1, 1, 0): 1
            colours(7): -6
            colours(8): 0
            """, Windows.CROSS + """
            glass(0, 1, 0): 1
            colours(0): 0
            """, Windows.FULLEST + """
            glass(67, 1, 2): 1
            colours(283): -6
            colours(284): 1
            pane(54..79, 7): 0 0 1 0 1 0 0 0 1 0 2 2 0 1 2 0 1 2 0 0 1 0 1 0 0 1
            """);
        s.of("When a try more than told would be done it is SPENT.", Windows.CROSS + """
            colours(0): -6
            colours(5): -6
            colours(6): 1
            lack(5): -6
            lack(6): -7
            glass(0, 1, 1): 1
            glass(1, 1, 1): 1
            colours(1): -6
            colours(2): 0
            """);
    }

    private static void cutting(Sentences s) {
        s.of("CUTTING: a SHEET of a by b (wide, high) is cut through by one straight cut into two upright parts", Windows.PINWHEEL + """
            pick(0): 1
            pick(1): 2
            pick(2): 3
            pick(3): 4
            pick(4): 5
            sheets(3, 3, false): 2
            sheets(4, 3, false): 1
            sheets(3, 4, false): 1
            """, """
            window(2, 1): 1
            pick(0): 1 2 3 4 5
            sheets(5, 3, false): 1
            sheets(4, 3, false): 1
            sheets(5, 2, false): 2
            sheets(3, 5, false): 1
            sheets(3, 4, false): 2
            """);
        s.of("A pane's box (u by v) is cut from a part that has just these sides, or, if turns are let", """
            window(5, 2): 1
            pick(0): 1
            sheets(5, 2, false): 1
            sheets(12, 12, false): 1
            sheets(4, 12, false): -7
            sheets(12, 1, true): -7
            sheets(2, 5, false): -7
            sheets(2, 5, true): 1
            glass(0, 1, 0): 1
            sheets(2, 5, true): 1
            glass(0, 2, 0): 1
            sheets(2, 5, true): -7
            sheets(5, 2, true): 1
            """);
    }
}

/** Promises 17 to 19: pick, unpick, sheets. */
final class CuttingSentences {
    private CuttingSentences() {
    }

    static void tell(Sentences s) {
        pick(s);
        unpick(s);
        sheets(s);
    }

    private static void pick(Sentences s) {
        s.promise(17);
        s.of("Pane p is chosen to be cut, too: how many are.", Windows.CROSS + """
            count(7): 0
            pick(3): 1
            pick(0): 2
            pick(1): 3
            count(7): 3
            sheets(4, 2, false): -7
            sheets(4, 4, false): 2
            """, Windows.FULLEST + """
            pick(105): 1
            count(7): 1
            """);
        s.nothing("NOTHING.", "pick(0)", "pick(-1)", "pick(2147483647)");
        s.of("BEYOND: there is no such pane.", Windows.CROSS + """
            pick(4): -1
            pick(-1): -1
            pick(2147483647): -1
            pick(-2147483648): -1
            count(7): 0
            pick(3): 1 2 3 4 5 6
            pick(4): -1
            count(7): 6
            found(-1): 5
            """, Windows.FULLEST + """
            pick(106): -1
            """);
        s.of("FULL: 6 are.", Windows.CROSS + """
            pick(0): 1 2 3 4 5 6 -3
            pick(1): -3
            count(7): 6
            sheets(4, 2, false): 6
            unpick(): 6
            pick(1): 1
            found(-3): 2
            """);
        s.of("(A pane may be chosen more than once.", """
            window(1, 1): 1
            pick(0): 1 2 3 4 5 6
            sheets(1, 1, false): 6
            sheets(6, 1, false): 1
            sheets(1, 5, false): 2
            """);
        s.of("Nothing is chosen any more when a lead comes or goes, or by window().)", Windows.CROSS + """
            pick(0): 1 2 3 4 5 6
            glass(0, 1, 1): 1
            colours(100): 1
            lead(0, 0, 0, 0): -2
            window(13, 1): -1
            count(7): 6
            lead(0, 0, 4, 0): 2
            count(7): 0
            pick(0): 1
            undo(): 2
            count(7): 0
            pick(0): 1
            window(4, 4): 1
            count(7): 0
            pick(0): 1
            undo(): -4
            count(7): 1
            """, Windows.CROSS + """
            keep(0): 1
            pick(3): 1
            keep(1): 1
            count(7): 1
            back(2): -4
            count(7): 1
            back(0): 4
            count(7): 0
            """);
    }

    private static void unpick(Sentences s) {
        s.promise(18);
        s.of("Nothing is chosen: how many were.", Windows.CROSS + """
            unpick(): 0
            pick(0): 1
            pick(3): 2
            unpick(): 2
            unpick(): 0
            count(7): 0
            sheets(1, 1, true): 0
            pick(0): 1 2 3 4 5 6
            unpick(): 6
            pick(2): 1
            """);
        s.nothing("NOTHING.", "unpick()");
    }

    private static void sheets(Sentences s) {
        s.promise(19);
        s.of("The fewest sheets of a by b from which the boxes of all chosen panes can be cut.", """
            window(4, 4): 1
            sheets(1, 1, false): 0
            sheets(12, 12, true): 0
            pick(0): 1
            sheets(4, 4, false): 1
            unpick(): 1
            sheets(1, 1, false): 0
            """, """
            window(12, 12): 1
            pick(0): 1 2 3 4 5 6
            sheets(12, 12, false): 6
            sheets(12, 12, true): 6
            """, """
            window(12, 1): 1
            pick(0): 1 2 3 4 5 6
            sheets(12, 6, false): 1
            sheets(12, 5, false): 2
            sheets(12, 1, false): 6
            sheets(6, 12, true): 1
            sheets(5, 12, true): 2
            sheets(1, 12, true): 6
            """, Windows.PINWHEEL + """
            pick(0): 1
            pick(1): 2
            pick(2): 3
            pick(3): 4
            pick(4): 5
            sheets(3, 3, false): 2
            sheets(3, 3, true): 1
            glass(0..4, 2, 255): 1
            sheets(3, 3, true): 2
            sheets(2, 2, true): 3
            """, """
            window(12, 12): 1
            lead(0, 7, 12, 7): 0
            lead(5, 0, 5, 7): 1
            pick(0): 1
            pick(1): 2
            pick(2): 3
            sheets(12, 12, false): 1
            pick(0): 4
            pick(1): 5
            pick(2): 6
            sheets(12, 12, false): 2
            sheets(12, 11, false): 3
            sheets(12, 7, false): 4
            """);
        s.nothing("NOTHING.", "sheets(1, 1, false)", "sheets(12, 12, true)", "sheets(0, 1, true)", "sheets(1, 13, false)");
        s.of("BEYOND: a or b isn't 1 .. 12.", """
            window(1, 1): 1
            sheets(0, 1, false): -1
            pick(0): 1
            sheets(0, 1, false): -1
            sheets(1, 0, false): -1
            sheets(0, 0, true): -1
            sheets(13, 1, false): -1
            sheets(1, 13, true): -1
            sheets(-1, 1, false): -1
            sheets(1, -1, false): -1
            sheets(2147483647, 1, false): -1
            sheets(1, 2147483647, true): -1
            sheets(-2147483648, 1, false): -1
            sheets(1, -2147483648, true): -1
            sheets(1, 1, false): 1
            sheets(12, 1, false): 1
            sheets(1, 12, true): 1
            sheets(12, 12, true): 1
            found(-1): 12
            """);
        s.of("NONE: there is a box that can't be cut from any.", """
            window(4, 3): 1
            pick(0): 1
            sheets(3, 12, false): -7
            sheets(12, 2, false): -7
            sheets(3, 4, false): -7
            sheets(3, 4, true): 1
            sheets(2, 12, true): -7
            glass(0, 2, 0): 1
            sheets(3, 4, true): -7
            sheets(4, 3, true): 1
            found(-7): 5
            """, """
            window(4, 4): 1
            lead(0, 1, 4, 1): 0
            pick(0): 1 2 3
            sheets(4, 1, false): 3
            pick(1): 4
            sheets(4, 1, false): -7
            sheets(4, 2, true): -7
            sheets(4, 3, false): 2
            glass(1, 2, 0): 1
            sheets(3, 4, true): -7
            glass(1, 0, 0): 1
            sheets(3, 4, true): 2
            count(7): 4
            """);
    }
}

/** Promises 1 to 5: a new object, window, lead, undo, count. */
final class WindowSentences {
    private WindowSentences() {
    }

    static void tell(Sentences s) {
        newObject(s);
        window(s);
        lead(s);
        undo(s);
        count(s);
    }

    private static void newObject(Sentences s) {
        s.promise(1);
        s.of("No window, nothing kept, nothing chosen.", """
            found(-7..-1): 0
            count(0..7): -4
            unpick(): -4
            back(0..3): -4
            alike(0..3): -4
            as(0..3, 0): -4
            window(2, 2): 1
            count(7): 0
            unpick(): 0
            sheets(1, 1, false): 0
            alike(0..3): -4
            back(0..3): -4
            as(0..3, 0): -4
            """);
    }

    private static void window(Sentences s) {
        s.promise(2);
        s.of("A new window, without leads: 1 (the panes that it has).", """
            window(1, 1): 1
            count(0..7): 1 1 0 4 4 0 1 0
            window(12, 12): 1
            count(0..7): 12 12 0 4 4 0 1 0
            window(1, 12): 1
            count(0..1): 1 12
            window(12, 1): 1
            count(0..1): 12 1
            """, Windows.CROSS + """
            glass(0, 1, 0): 1
            pick(3): 1
            lack(100): 1
            bits(0): 1
            window(4, 4): 1
            count(0..7): 4 4 0 4 4 0 1 0
            pane(0, 5..7): 0 255 8
            bits(0..9): 0
            undo(): -4
            colours(1): 1
            window(4, 4): 1
            pane(0, 7): 8
            """, Windows.FULLEST + """
            window(3, 2): 1
            count(0..7): 3 2 0 4 4 0 1 0
            lead(0, 0, 3, 2): 0
            """);
        s.of("SIZE: w or h is below 0.", """
            window(-1, 4): -2
            window(4, -1): -2
            window(-1, -1): -2
            window(-2147483648, 4): -2
            window(4, -2147483648): -2
            window(-1, 0): -2
            window(0, -1): -2
            window(-1, 13): -2
            window(2147483647, -1): -2
            count(0): -4
            found(-2): 9
            """, Windows.CROSS + """
            window(-1, 4): -2
            window(4, -1): -2
            count(0..7): 4 4 2 5 8 0 4 0
            """);
        s.of("BEYOND: w or h is 0, or above 12.", """
            window(0, 4): -1
            window(4, 0): -1
            window(0, 0): -1
            window(13, 4): -1
            window(4, 13): -1
            window(13, 13): -1
            window(0, 13): -1
            window(2147483647, 1): -1
            window(1, 2147483647): -1
            count(0): -4
            found(-1): 9
            """, Windows.CROSS + """
            glass(0, 1, 0): 1
            window(0, 4): -1
            window(4, 13): -1
            count(0..7): 4 4 2 5 8 0 4 0
            pane(0, 6): 0
            """);
    }

    private static void lead(Sentences s) {
        s.promise(3);
        s.of("A lead from x, y to u, v: its number.", """
            window(2, 3): 1
            lead(0, 0, 2, 3): 0
            lead(2, 3, 0, 0): 1
            lead(0, 0, 2, 0): 2
            lead(1, 1, 1, 2): 3
            undo(): 3
            undo(): 2
            lead(1, 3, 1, 0): 2
            count(2): 3
            """, Windows.CROSS + """
            glass(0, 1, 0): 1
            lack(100): 1
            pick(0): 1
            lead(0, 0, 4, 0): 2
            count(7): 0
            bits(0): 0
            pane(0, 5..7): 0 255 8
            colours(100): 1
            lead(4, 4, 0, 0): 3
            pane(0..3, 7): 8
            """);
        s.nothing("NOTHING: there is no window.",
            "lead(0, 0, 1, 1)", "lead(0, 0, 0, 0)", "lead(-1, 0, 1, 1)", "lead(2147483647, 0, -2147483648, 1)");
        s.of("BEYOND: one of the points is no grid point of it.", """
            window(4, 3): 1
            lead(5, 0, 0, 0): -1
            lead(0, 4, 0, 0): -1
            lead(0, 0, 5, 0): -1
            lead(0, 0, 0, 4): -1
            lead(-1, 0, 0, 0): -1
            lead(0, -1, 1, 1): -1
            lead(0, 0, -1, 0): -1
            lead(1, 0, 0, -1): -1
            lead(5, 5, 5, 5): -1
            lead(-1, -1, -1, -1): -1
            lead(2147483647, 0, 0, 0): -1
            lead(0, 0, 0, -2147483648): -1
            count(2): 0
            lead(4, 3, 0, 0): 0
            lead(4, 0, 0, 3): 1
            found(-1): 12
            """, """
            window(12, 12): 1
            lead(13, 12, 0, 0): -1
            lead(12, 13, 0, 0): -1
            lead(12, 12, 0, 0): 0
            """);
        s.of("SIZE: they are the same point.", """
            window(4, 3): 1
            lead(0, 0, 0, 0): -2
            lead(4, 3, 4, 3): -2
            lead(2, 2, 2, 2): -2
            count(2): 0
            count(3): 4
            lead(2, 2, 2, 1): 0
            lead(2, 2, 3, 2): 1
            found(-2): 3
            """);
        s.of("FULL: there are 14.", """
            window(4, 4): 1
            lead(0, 0, 4, 4): 0 1 2 3 4 5 6 7 8 9 10 11 12
            lead(0, 4, 4, 0): 13
            lead(0, 2, 4, 2): -3
            count(2): 14
            count(6): 4
            undo(): 13
            lead(0, 2, 4, 2): 13
            lead(0, 2, 4, 2): -3
            window(4, 4): 1
            lead(0, 2, 4, 2): 0
            found(-3): 2
            """, Windows.FULLEST + """
            glass(105, 1, 7): 1
            pick(105): 1
            lead(0, 0, 12, 12): -3
            pane(105, 5..6): 1 7
            count(7): 1
            """);
    }

    private static void undo(Sentences s) {
        s.promise(4);
        s.of("The latest lead goes: how many are left.", Windows.CROSS + """
            lead(0, 2, 4, 2): 2
            count(6): 6
            glass(0, 1, 0): 1
            pick(5): 1
            lack(20000): 1
            bits(0): 1
            undo(): 2
            count(0..7): 4 4 2 5 8 0 4 0
            bits(0): 0
            pane(0..3, 6): 255
            undo(): 1
            count(6): 2
            undo(): 0
            count(6): 1
            count(3): 4
            """, Windows.FULLEST + """
            undo(): 13 12 11 10 9 8 7 6 5 4 3 2 1 0 -4
            count(0..7): 12 12 0 4 4 0 1 0
            """);
        s.of("NOTHING: there is no window, or no lead.", """
            undo(): -4
            window(4, 4): 1
            undo(): -4
            lead(0, 0, 4, 4): 0
            undo(): 0
            undo(): -4
            lead(0, 0, 4, 4): 0
            window(4, 4): 1
            undo(): -4
            found(-4): 4
            """);
    }

    private static void count(Sentences s) {
        s.promise(5);
        s.of("0 w, 1 h, 2 leads, 3 joints, 4 pieces, 5 loose pieces, 6 panes, 7 panes chosen by pick().", """
            window(1, 1): 1
            count(0..7): 1 1 0 4 4 0 1 0
            """, """
            window(5, 4): 1
            lead(0, 2, 5, 2): 0
            lead(2, 0, 2, 3): 1
            lead(3, 3, 4, 3): 2
            pick(0): 1 2
            count(0..7): 5 4 3 11 12 2 3 2
            """, Windows.FULLEST + """
            pick(105): 1 2 3 4 5 6
            count(0..7): 12 12 14 123 228 0 106 6
            """);
        s.nothing("NOTHING: there is no window.",
            "count(0)", "count(1)", "count(2)", "count(3)", "count(4)", "count(5)", "count(6)", "count(7)", "count(8)", "count(-1)");
        s.of("BEYOND: another what.", """
            window(4, 4): 1
            count(8): -1
            count(-1): -1
            count(2147483647): -1
            count(-2147483648): -1
            count(7): 0
            count(0): 4
            found(-1): 4
            """);
    }
}

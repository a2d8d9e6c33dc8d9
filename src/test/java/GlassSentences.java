/** Promises 13 to 16: glass, colours, lack, bits. */
final class GlassSentences {
    /** Three panes of which each touches both others. */
    private static final String THREE = """
        window(4, 4): 1
        lead(2, 2, 2, 4): 0
        lead(2, 2, 0, 0): 1
        lead(2, 2, 4, 0): 2
        """;

    private GlassSentences() {
    }

    static void tell(Sentences s) {
        glass(s);
        colours(s);
        lack(s);
        bits(s);
    }

    private static void glass(Sentences s) {
        s.promise(13);
        s.of("The glass of pane p: a kind, and of kind 1 and 2 the allowed colours (the lowest 8 bits): 1", Windows.CROSS + """
            glass(3, 1, 255): 1
            pane(3, 5..6): 1 255
            glass(3, 1, 256): 1
            pane(3, 5..6): 1 0
            glass(3, 2, 257): 1
            pane(3, 5..6): 2 1
            glass(3, 1, -1): 1
            pane(3, 5..6): 1 255
            glass(3, 2, -128): 1
            pane(3, 5..6): 2 128
            glass(3, 1, 2147483647): 1
            pane(3, 5..6): 1 255
            glass(3, 2, -2147483648): 1
            pane(3, 5..6): 2 0
            glass(3, 0, 0): 1
            pane(3, 5..6): 0 255
            glass(3, 0, -1): 1
            pane(3, 5..6): 0 255
            glass(0, 2, 0): 1
            pane(0..3, 5): 2 0 0 0
            """, Windows.CROSS + """
            colours(100): 1
            glass(2, 0, 0): 1
            pane(0..3, 7): 0 1 8 0
            colours(100): 1
            glass(0, 1, 1): 1
            pane(0..3, 7): 8 1 1 0
            """, Windows.CROSS + """
            glass(0, 1, 0): 1
            lack(100): 1
            pick(0): 1
            glass(0, 1, 1): 1
            bits(0): 1
            count(7): 1
            """, Windows.FULLEST + """
            glass(105, 2, 64): 1
            pane(105, 5..6): 2 64
            pane(104, 5..6): 0 255
            """);
        s.nothing("NOTHING.", "glass(0, 0, 0)", "glass(-1, 0, 0)", "glass(0, 3, 0)");
        s.of("BEYOND: there is no such pane.", Windows.CROSS + """
            glass(4, 0, 0): -1
            glass(-1, 0, 0): -1
            glass(2147483647, 1, 1): -1
            glass(-2147483648, 1, 1): -1
            glass(4, 3, 0): -1
            glass(3, 0, 0): 1
            found(-1): 5
            """, Windows.FULLEST + """
            glass(106, 1, 1): -1
            """);
        s.of("KIND: another kind.", Windows.CROSS + """
            colours(100): 1
            glass(0, 2, 1): 1
            glass(0, 3, 4): -5
            glass(0, -1, 4): -5
            glass(1, 2147483647, 4): -5
            glass(1, -2147483648, 4): -5
            pane(0, 5..7): 2 1 8
            pane(1, 5..7): 0 255 1
            found(-5): 4
            """);
    }

    private static void colours(Sentences s) {
        s.promise(14);
        s.of("THE SEARCH over all panes with so many tries: 1 all have the colours that it found, 0 there are none", """
            window(1, 1): 1
            colours(1): 1
            pane(0, 7): 0
            glass(0, 1, 128): 1
            colours(1): 1
            pane(0, 7): 7
            glass(0, 1, 0): 1
            colours(0): 0
            pane(0, 7): 8
            """, Windows.CROSS + """
            colours(6): 1
            pane(0..3, 7): 0 1 1 0
            glass(0, 1, 1): 1
            glass(1, 1, 1): 1
            pane(0..3, 7): 8 8 1 0
            colours(2): 0
            pane(0..3, 7): 8
            """, THREE + """
            glass(0, 1, 3): 1
            glass(1, 1, 3): 1
            glass(2, 1, 3): 1
            colours(10): 0
            glass(2, 2, 7): 1
            colours(6): 1
            pane(0..2, 7): 0 1 2
            """, Windows.FULLEST + """
            colours(157): -6
            colours(158): 1
            pane(0..29, 7): 0 1 0 1 0 1 0 1 1 0 1 0 1 0 1 0 0 0 0 1 1 1 0 1 1 1 0 1 0 0
            pane(30..59, 7): 0 1 1 0 1 0 1 1 0 0 1 1 0 1 0 1 1 0 0 1 1 0 1 1 0 0 1 0 1 0
            pane(60..89, 7): 0 0 1 0 1 1 0 0 1 0 1 1 0 0 1 0 1 0 0 1 1 0 0 1 0 1 0 1 0 0
            pane(90..105, 7): 1 0 1 1 0 0 0 1 1 1 0 0 1 1 0 0
            colours(158): 1
            pane(105, 7): 0
            """, THREE + """
            colours(100): 1
            pane(0..2, 7): 0 1 2
            window(3, 3): 1
            lead(1, 0, 1, 3): 0
            lead(2, 0, 2, 3): 1
            colours(100): 1
            pane(0..2, 7): 0 1 0
            """);
        s.nothing("NOTHING.", "colours(0)", "colours(1)", "colours(-1)", "colours(100001)");
        s.of("BEYOND: tries isn't 0 .. 100000.", Windows.CROSS + """
            colours(100): 1
            colours(-1): -1
            colours(100001): -1
            colours(2147483647): -1
            colours(-2147483648): -1
            pane(0..3, 7): 0 1 1 0
            colours(100000): 1
            colours(0): -6
            found(-1): 4
            """);
        s.of("SPENT (colours stay).", Windows.CROSS + """
            colours(0): -6
            colours(5): -6
            pane(0..3, 7): 8
            colours(6): 1
            glass(0, 1, 2): 1
            colours(3): -6
            pane(0..3, 7): 8 1 1 0
            colours(5): 1
            pane(0..3, 7): 1 0 0 1
            found(-6): 3
            """, THREE + """
            glass(0, 1, 3): 1
            glass(1, 1, 3): 1
            colours(100): 1
            pane(0..2, 7): 0 1 2
            glass(2, 1, 3): 1
            colours(9): -6
            pane(0..2, 7): 0 1 8
            """, Windows.FULLEST + """
            colours(100000): 1
            glass(105, 1, 0): 1
            colours(100000): -6
            pane(0, 7): 0
            pane(105, 7): 8
            """);
    }

    private static void lack(Sentences s) {
        s.promise(15);
        s.of("From all panes, by number, each is left out in turn if THE SEARCH (with so many tries each) finds nothing", """
            window(1, 1): 1
            glass(0, 1, 0): 1
            lack(0): 1
            bits(0): 1
            """, Windows.CROSS + """
            glass(0..3, 1, 1): 1
            lack(100): 2
            bits(0): 12
            glass(2, 1, 2): 1
            lack(100): 2
            bits(0): 10
            glass(3, 1, 4): 1
            lack(100): 2
            bits(0): 3
            glass(1, 1, 0): 1
            lack(100): 1
            bits(0): 2
            """, THREE + """
            glass(0..2, 1, 3): 1
            lack(10): 3
            bits(0): 7
            pane(0..2, 7): 8
            """, Windows.CROSS + """
            colours(100): 1
            glass(3, 1, 0): 1
            lack(20000): 1
            bits(0): 8
            pane(0..3, 7): 0 1 1 8
            """, Windows.FULLEST + """
            glass(0..105, 1, 0): 1
            lack(0): 1
            bits(3): 32768
            """);
        s.nothing("NOTHING.", "lack(0)", "lack(1)", "lack(-1)", "lack(20001)");
        s.of("BEYOND: tries isn't 0 .. 20000.", Windows.CROSS + """
            glass(0, 1, 0): 1
            lack(-1): -1
            lack(20001): -1
            lack(100000): -1
            lack(2147483647): -1
            lack(-2147483648): -1
            bits(0): 0
            lack(20000): 1
            bits(0): 1
            glass(3, 1, 0): 1
            glass(0, 0, 0): 1
            lack(20001): -1
            bits(0): 1
            found(-1): 6
            """);
        s.of("SPENT: one of the searches is, that over all panes first.", Windows.CROSS + """
            lack(0): -6
            lack(5): -6
            glass(0..2, 1, 1): 1
            lack(1): -6
            lack(2): -6
            lack(3): -6
            bits(0): 0
            lack(4): 2
            bits(0): 5
            lack(3): -6
            bits(0): 5
            found(-6): 6
            """, THREE + """
            glass(0..2, 1, 3): 1
            lack(9): -6
            bits(0): 0
            """, Windows.FULLEST + """
            glass(105, 1, 0): 1
            lack(20000): -6
            """);
        s.of("NONE: that finds a colouring.", """
            window(1, 1): 1
            lack(1): -7
            bits(0): 0
            """, Windows.CROSS + """
            lack(6): -7
            pane(0..3, 7): 8
            glass(2, 1, 0): 1
            lack(20000): 1
            bits(0): 4
            glass(2, 1, 1): 1
            lack(20000): -7
            bits(0): 4
            found(-7): 2
            """, Windows.FULLEST + """
            lack(20000): -7
            """);
    }

    private static void bits(Sentences s) {
        s.promise(16);
        s.of("Panes 30 i .. 30 i + 29 that the latest lack() left (bit k for the k-th of these); 0 if there was none", """
            window(1, 1): 1
            bits(0..9): 0
            """, Windows.FULLEST + """
            bits(0..9): 0
            glass(0..29, 1, 0): 1
            lack(20000): 1
            bits(0..9): 536870912 0 0 0 0 0 0 0 0 0
            glass(30, 1, 0): 1
            bits(0..9): 536870912 0 0 0 0 0 0 0 0 0
            lack(20000): 1
            bits(0..9): 0 1 0 0 0 0 0 0 0 0
            glass(31..59, 1, 0): 1
            lack(20000): 1
            bits(0..9): 0 536870912 0 0 0 0 0 0 0 0
            glass(60, 1, 0): 1
            lack(20000): 1
            bits(0..9): 0 0 1 0 0 0 0 0 0 0
            glass(61..89, 1, 0): 1
            lack(20000): 1
            bits(0..9): 0 0 536870912 0 0 0 0 0 0 0
            glass(90, 1, 0): 1
            lack(20000): 1
            bits(0..9): 0 0 0 1 0 0 0 0 0 0
            glass(91..105, 1, 0): 1
            lack(20000): 1
            bits(0..9): 0 0 0 32768 0 0 0 0 0 0
            """, Windows.CROSS + """
            glass(2, 1, 0): 1
            lack(20000): 1
            bits(0): 4
            lack(20001): -1
            glass(2, 0, 0): 1
            lack(6): -7
            lack(5): -6
            colours(100): 1
            pick(0): 1
            keep(0): 1
            rack(0, 0): 1
            bits(0): 4
            lead(0, 0, 4, 4): 2
            bits(0): 0
            glass(0, 1, 0): 1
            lack(20000): 1
            bits(0): 1
            undo(): 2
            bits(0): 0
            glass(0, 1, 0): 1
            lack(20000): 1
            bits(0): 1
            window(4, 4): 1
            bits(0): 0
            glass(0, 1, 0): 1
            lack(0): 1
            bits(0): 1
            back(0): 4
            bits(0): 0
            """);
        s.nothing("NOTHING.", "bits(0)", "bits(9)", "bits(-1)", "bits(10)");
        s.of("BEYOND: i isn't 0 .. 9.", Windows.CROSS + """
            glass(0, 1, 0): 1
            lack(100): 1
            bits(-1): -1
            bits(10): -1
            bits(2147483647): -1
            bits(-2147483648): -1
            bits(143165577): -1
            bits(0..9): 1 0 0 0 0 0 0 0 0 0
            found(-1): 5
            """);
    }
}

/** Promises 20 to 25: keep, back, alike, rack, as, found. */
final class PlaceSentences {
    private PlaceSentences() {
    }

    static void tell(Sentences s) {
        keep(s);
        back(s);
        alike(s);
        rack(s);
        as(s);
        found(s);
    }

    private static void keep(Sentences s) {
        s.promise(20);
        s.of("The window with its leads is kept at place k (0 .. 3): 1.", Windows.CROSS + """
            keep(0): 1
            keep(3): 1
            lead(0, 2, 4, 2): 2
            keep(1): 1
            undo(): 2
            undo(): 1
            keep(2): 1
            window(1, 1): 1
            keep(3): 1
            window(2, 2): 1
            back(0): 4
            count(2): 2
            back(1): 6
            count(2): 3
            back(2): 2
            count(2): 1
            back(3): 1
            count(0..2): 1 1 0
            """, Windows.CROSS + """
            glass(0, 1, 0): 1
            pick(0): 1
            lack(100): 1
            keep(0): 1
            pane(0, 5..6): 1 0
            count(7): 1
            bits(0): 1
            """, Windows.FULLEST + """
            keep(3): 1
            window(1, 1): 1
            keep(0): 1
            back(3): 106
            count(0..7): 12 12 14 123 228 0 106 0
            lead(0, 0, 12, 12): -3
            """);
        s.nothing("NOTHING.", "keep(0)", "keep(3)", "keep(4)", "keep(-1)");
        s.of("BEYOND: another k.", Windows.CROSS + """
            keep(4): -1
            keep(-1): -1
            keep(2147483647): -1
            keep(-2147483648): -1
            back(0..3): -4
            keep(3): 1
            keep(0): 1
            found(-1): 4
            """);
    }

    private static void back(Sentences s) {
        s.promise(21);
        s.of("It is the window again that was kept at place k: the panes that it has.", Windows.CROSS + """
            keep(0): 1
            window(12, 1): 1
            lead(0, 0, 12, 1): 0
            back(0): 4
            count(0..7): 4 4 2 5 8 0 4 0
            corner(3, 0..2): 2 4 3
            undo(): 1
            lead(0, 2, 4, 2): 1
            back(0): 4
            joint(2, 0..5): 2 1 2 1 4 4
            """, Windows.CROSS + """
            keep(1): 1
            glass(0, 1, 0): 1
            pick(2): 1
            lack(100): 1
            back(1): 4
            pane(0, 5..7): 0 255 8
            count(7): 0
            bits(0): 0
            colours(100): 1
            back(1): 4
            pane(0..3, 7): 8
            """, """
            window(3, 3): 1
            keep(2): 1
            lead(0, 0, 3, 3): 0
            back(2): 1
            undo(): -4
            lead(0, 0, 3, 3): 0
            """);
        s.of("BEYOND: another k.", """
            back(4): -1
            back(-1): -1
            back(2147483647): -1
            back(-2147483648): -1
            found(-1): 4
            """, Windows.CROSS + """
            keep(0): 1
            keep(3): 1
            pick(0): 1
            back(4): -1
            back(-1): -1
            count(7): 1
            back(3): 4
            """);
        s.of("NOTHING: none was.", """
            back(0..3): -4
            window(2, 2): 1
            back(0..3): -4
            lead(0, 0, 2, 2): 0
            keep(1): 1
            pick(1): 1
            back(0): -4
            back(2): -4
            back(3): -4
            count(0..7): 2 2 1 4 5 0 2 1
            back(1): 2
            found(-4): 11
            """);
    }

    private static void alike(Sentences s) {
        s.promise(22);
        s.of("How many of the TURNINGS take the joints and pieces of this window to those of the one kept at place k", """
            window(4, 4): 1
            keep(0): 1
            alike(0): 8
            lead(0, 1, 4, 2): 0
            alike(0): 0
            keep(1): 1
            alike(1): 1
            window(4, 4): 1
            lead(3, 0, 2, 4): 0
            alike(1): 1
            window(4, 4): 1
            lead(4, 3, 0, 2): 0
            alike(1): 1
            window(4, 4): 1
            lead(1, 4, 2, 0): 0
            alike(1): 1
            window(4, 4): 1
            lead(4, 1, 0, 2): 0
            alike(1): 1
            window(4, 4): 1
            lead(1, 0, 2, 4): 0
            alike(1): 1
            window(4, 4): 1
            lead(0, 3, 4, 2): 0
            alike(1): 1
            window(4, 4): 1
            lead(3, 4, 2, 0): 0
            alike(1): 1
            window(4, 4): 1
            lead(0, 1, 4, 3): 0
            alike(1): 0
            """, """
            window(5, 3): 1
            keep(0): 1
            alike(0): 4
            window(3, 5): 1
            alike(0): 4
            window(5, 5): 1
            alike(0): 0
            window(3, 3): 1
            alike(0): 0
            window(5, 4): 1
            alike(0): 0
            """, Windows.CROSS + """
            keep(0): 1
            lead(2, 2, 4, 4): 2
            alike(0): 8
            lead(0, 0, 4, 0): 3
            alike(0): 8
            lead(0, 0, 1, 0): 4
            alike(0): 0
            """, """
            window(4, 4): 1
            lead(1, 1, 3, 1): 0
            lead(1, 3, 3, 3): 1
            keep(0): 1
            alike(0): 4
            window(4, 4): 1
            lead(1, 1, 3, 3): 0
            lead(1, 3, 1, 1): 1
            alike(0): 0
            window(4, 4): 1
            lead(1, 1, 1, 3): 0
            lead(3, 3, 3, 1): 1
            alike(0): 4
            glass(0, 2, 0): 1
            alike(0): 4
            """, """
            window(5, 4): 1
            lead(1, 1, 4, 1): 0
            lead(1, 3, 4, 3): 1
            keep(0): 1
            alike(0): 4
            window(5, 4): 1
            lead(1, 1, 1, 3): 0
            lead(4, 1, 4, 3): 1
            alike(0): 0
            """, Windows.PINWHEEL + """
            keep(2): 1
            alike(2): 4
            window(3, 3): 1
            lead(3, 1, 1, 1): 0
            lead(1, 0, 1, 2): 1
            lead(2, 2, 0, 2): 2
            lead(2, 1, 2, 3): 3
            alike(2): 4
            """, Windows.FULLEST + """
            keep(0): 1
            alike(0): 1
            """);
        s.of("BEYOND: another k.", """
            alike(4): -1
            alike(-1): -1
            alike(2147483647): -1
            alike(-2147483648): -1
            found(-1): 4
            """, Windows.CROSS + """
            keep(0): 1
            keep(3): 1
            alike(4): -1
            alike(-1): -1
            alike(3): 8
            """);
        s.of("NOTHING: there is no window, or none was kept.", """
            alike(0..3): -4
            window(4, 4): 1
            alike(0..3): -4
            keep(2): 1
            alike(0..3): -4 -4 8 -4
            found(-4): 11
            """);
    }

    private static void rack(Sentences s) {
        s.promise(23);
        s.of("Place k (0 .. 3) of the rack gets the glass (its kind and allowed colours) of pane p as it is then", Windows.CROSS + """
            glass(3, 2, 9): 1
            rack(0, 3): 1
            glass(3, 1, 5): 1
            rack(3, 3): 1
            rack(1, 0): 1
            as(0, 2): 9
            as(3, 1): 5
            as(3, 2): -5
            as(1, 0): 255
            as(1, 1): -5
            as(2, 0): -4
            rack(0, 0): 1
            as(0, 0): 255
            as(0, 2): -5
            rack(0, -1): 1
            as(0, 0): -4
            rack(0, -1): 1
            as(0, 0): -4
            rack(3, -1): 1
            as(3, 0): -4
            pane(3, 5..6): 1 5
            """, """
            rack(0..3, -1): 1
            found(-7..-1): 0
            """, Windows.FULLEST + """
            glass(105, 1, 128): 1
            rack(2, 105): 1
            as(2, 1): 128
            """);
        s.of("(What is there stays, whatever becomes of the window.)", Windows.CROSS + """
            glass(0, 2, 33): 1
            rack(0, 0): 1
            keep(0): 1
            lead(0, 2, 4, 2): 2
            as(0, 2): 33
            undo(): 2
            as(0, 2): 33
            window(1, 1): 1
            as(0, 2): 33
            back(0): 4
            as(0, 2): 33
            pane(0, 5): 0
            """);
        s.of("BEYOND: another k.", """
            rack(4, -1): -1
            rack(-1, -1): -1
            rack(4, 0): -1
            rack(-1, 0): -1
            rack(2147483647, 0): -1
            rack(-2147483648, -1): -1
            found(-1): 6
            """, Windows.CROSS + """
            rack(3, 0): 1
            rack(4, 0): -1
            rack(-1, 0): -1
            rack(4, -1): -1
            as(3, 0): 255
            """);
        s.of("Of p -1 no more; else NOTHING: there is no window.", """
            rack(0, -1): 1
            rack(3, -1): 1
            rack(0, 0): -4
            rack(3, 0): -4
            rack(0, -2): -4
            rack(0, 2147483647): -4
            rack(0, -2147483648): -4
            as(0, 0): -4
            found(-4): 6
            """);
        s.of("BEYOND: there is no such pane.", Windows.CROSS + """
            glass(0, 1, 3): 1
            rack(0, 0): 1
            rack(0, 4): -1
            rack(0, -2): -1
            rack(0, 2147483647): -1
            rack(0, -2147483648): -1
            rack(1, 4): -1
            as(0, 1): 3
            as(1, 0): -4
            rack(1, 3): 1
            found(-1): 5
            """, Windows.FULLEST + """
            rack(0, 106): -1
            """);
    }

    private static void as(Sentences s) {
        s.promise(24);
        s.of("The allowed colours of the glass at place k of the rack, if it is of a kind or of one under it", """
            window(4, 4): 1
            rack(0, 0): 1
            glass(0, 1, 65): 1
            rack(1, 0): 1
            glass(0, 2, 66): 1
            rack(2, 0): 1
            glass(0, 2, 0): 1
            rack(3, 0): 1
            as(0, 0): 255
            as(1, 0..1): 65
            as(2, 0..2): 66
            as(3, 0..2): 0
            """);
        s.of("BEYOND: another k, or kind isn't 0 .. 2.", """
            as(4, 0): -1
            as(-1, 0): -1
            as(2147483647, 0): -1
            as(-2147483648, 0): -1
            as(0, 3): -1
            as(0, -1): -1
            as(0, 2147483647): -1
            as(0, -2147483648): -1
            as(4, 3): -1
            found(-1): 9
            """, """
            window(4, 4): 1
            glass(0, 2, 7): 1
            rack(0, 0): 1
            rack(3, 0): 1
            as(3, 3): -1
            as(3, -1): -1
            as(4, 2): -1
            as(-1, 2): -1
            as(3, 2): 7
            """);
        s.of("NOTHING: nothing is there.", """
            as(0..3, 0): -4
            as(0..3, 2): -4
            window(4, 4): 1
            as(0..3, 0): -4
            rack(1, 0): 1
            as(0..3, 0): -4 255 -4 -4
            rack(1, -1): 1
            as(1, 0..2): -4
            found(-4): 18
            """);
        s.of("KIND: it isn't.", """
            window(4, 4): 1
            rack(0, 0): 1
            as(0, 0..2): 255 -5 -5
            glass(0, 1, 1): 1
            rack(0, 0): 1
            as(0, 0..2): 1 1 -5
            glass(0, 2, 2): 1
            rack(0, 0): 1
            as(0, 0..2): 2
            found(-5): 3
            """);
    }

    private static void found(Sentences s) {
        s.promise(25);
        s.of("How many acts have answered a finding (-1 .. -7); BEYOND: another number (counted, too).", """
            found(-7..-1): 0
            found(0): -1
            found(1): -1
            found(-8): -1
            found(2147483647): -1
            found(-2147483648): -1
            found(-1): 5
            found(-7..-2): 0
            """, """
            window(-1, 1): -2
            window(0, 1): -1
            lead(0, 0, 1, 1): -4
            undo(): -4
            count(0): -4
            joint(0, 0): -4
            piece(0, 0): -4
            corner(0, 0): -4
            pane(0, 0): -4
            area(0): -4
            touch(0, 0): -4
            at(1, 1): -4
            glass(0, 0, 0): -4
            colours(1): -4
            lack(1): -4
            bits(0): -4
            pick(0): -4
            unpick(): -4
            sheets(1, 1, true): -4
            keep(0): -4
            back(0): -4
            alike(0): -4
            rack(0, 0): -4
            as(0, 0): -4
            found(-7..-1): 0 0 0 22 0 1 1
            """, Windows.CROSS + """
            lead(0, 0, 5, 0): -1
            count(8): -1
            joint(5, 0): -1
            piece(5, 0): -1
            corner(4, 0): -1
            pane(4, 0): -1
            area(4): -1
            touch(4, 0): -1
            at(0, 0): -1
            glass(4, 0, 0): -1
            colours(-1): -1
            lack(-1): -1
            bits(10): -1
            pick(4): -1
            sheets(0, 0, true): -1
            keep(4): -1
            back(4): -1
            alike(4): -1
            rack(4, 0): -1
            rack(0, 4): -1
            as(4, 0): -1
            found(0): -1
            found(-7..-1): 0 0 0 0 0 0 22
            lead(0, 0, 0, 0): -2
            glass(0, 3, 0): -5
            rack(0, 0): 1
            as(0, 1): -5
            colours(0): -6
            lack(0): -6
            lack(100): -7
            at(4, 4): -7
            pick(0): 1 2 3 4 5 6 -3
            sheets(1, 1, true): -7
            found(-7..-1): 3 2 2 0 1 1 22
            window(4, 4): 1
            lead(0, 0, 4, 4): 0 1 2 3 4 5 6 7 8 9 10 11 12 13 -3
            found(-7..-1): 3 2 2 0 2 1 22
            """);
    }
}

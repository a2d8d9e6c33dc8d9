/** Promises 6 to 12: joint, piece, corner, pane, area, touch, at. */
final class PaneSentences {
    /** A million times the area of pane 4 is 21901701 less 3 / 188464903. */
    private static final String NEXT_TO_WHOLE = """
        window(12, 12): 1
        lead(9, 12, 5, 0): 0
        lead(3, 12, 10, 0): 1
        lead(0, 6, 12, 11): 2
        lead(12, 8, 7, 12): 3
        lead(9, 0, 12, 11): 4
        """;

    private PaneSentences() {
    }

    static void tell(Sentences s) {
        joint(s);
        piece(s);
        corner(s);
        pane(s);
        area(s);
        touch(s);
        at(s);
    }

    private static void joint(Sentences s) {
        s.promise(6);
        s.of("Of joint i: 0 the numerator, 1 the denominator (above 0, in lowest terms) of its x", """
            window(6, 1): 1
            lead(0, 0, 6, 1): 0
            lead(1, 0, 3, 1): 1
            joint(0, 0..5): 0 1 0 1 3 3
            joint(3, 0..5): 3 2 1 4 4 4
            joint(6, 0..5): 6 1 1 1 3 3
            """, """
            window(6, 1): 1
            lead(3, 1, 1, 0): 0
            lead(0, 0, 6, 1): 1
            joint(3, 0..5): 3 2 1 4 4 4
            """, """
            window(12, 12): 1
            lead(12, 11, 0, 0): 0
            lead(12, 0, 1, 12): 1
            joint(2, 0..5): 1728 265 1584 265 4 4
            """, """
            window(12, 12): 1
            lead(0, 0, 12, 12): 0
            lead(12, 0, 0, 12): 1
            joint(2, 0..5): 6 1 6 1 4 4
            joint(4, 0..5): 12 1 12 1 3 3
            """, Windows.CROSS + """
            lead(2, 2, 3, 2): 2
            joint(2, 4..5): 5 4
            joint(3, 4..5): 1 0
            """, Windows.FULLEST + """
            joint(122, 0..5): 12 1 12 1 2 2
            """);
        s.nothing("NOTHING: there is no window.", "joint(0, 0)", "joint(0, 5)", "joint(-1, 0)", "joint(0, 6)");
        s.of("BEYOND: there is no such joint, or another what.", Windows.CROSS + """
            joint(5, 0): -1
            joint(-1, 0): -1
            joint(2147483647, 0): -1
            joint(-2147483648, 0): -1
            joint(0, 6): -1
            joint(0, -1): -1
            joint(0, 2147483647): -1
            joint(0, -2147483648): -1
            joint(5, 6): -1
            joint(4, 5): 3
            found(-1): 9
            """, Windows.FULLEST + """
            joint(123, 0): -1
            joint(122, 6): -1
            """);
    }

    private static void piece(Sentences s) {
        s.promise(7);
        s.of("Of two joints: 2 there is a firm piece between them, 1 a loose one, 0 none.", Windows.CROSS + """
            lead(2, 2, 3, 2): 2
            piece(0, 0..5): 0 2 2 0 2 0
            piece(1, 0..5): 2 0 2 0 0 2
            piece(2, 0..5): 2 2 0 1 2 2
            piece(3, 0..5): 0 0 1 0 0 0
            piece(4, 0..5): 2 0 2 0 0 2
            piece(5, 0..5): 0 2 2 0 2 0
            """, Windows.FULLEST + """
            piece(122, 122): 0
            piece(121, 122): 2
            piece(122, 0): 0
            """);
        s.nothing("NOTHING.", "piece(0, 0)", "piece(0, 1)", "piece(-1, 0)");
        s.of("BEYOND: one of them isn't there.", Windows.CROSS + """
            piece(5, 0): -1
            piece(0, 5): -1
            piece(-1, 0): -1
            piece(0, -1): -1
            piece(5, 5): -1
            piece(-1, -1): -1
            piece(2147483647, 0): -1
            piece(0, -2147483648): -1
            piece(4, 4): 0
            found(-1): 8
            """, Windows.FULLEST + """
            piece(123, 0): -1
            piece(0, 123): -1
            """);
    }

    private static void corner(Sentences s) {
        s.promise(8);
        s.of("Corner k of pane p: its joint.", """
            window(1, 1): 1
            corner(0, 0..3): 0 1 3 2
            """, Windows.CROSS + """
            corner(0, 0..2): 0 1 2
            corner(1, 0..2): 0 2 3
            corner(2, 0..2): 1 4 2
            corner(3, 0..2): 2 4 3
            """);
        s.nothing("NOTHING.", "corner(0, 0)", "corner(-1, 0)", "corner(0, -1)");
        s.of("BEYOND: there is no such pane, or corner.", Windows.CROSS + """
            corner(4, 0): -1
            corner(-1, 0): -1
            corner(2147483647, 0): -1
            corner(-2147483648, 0): -1
            corner(0, 3): -1
            corner(0, -1): -1
            corner(3, 3): -1
            corner(3, 2147483647): -1
            corner(3, -2147483648): -1
            corner(4, 3): -1
            corner(3, 2): 3
            found(-1): 10
            """, Windows.FULLEST + """
            corner(106, 0): -1
            """);
    }

    private static void pane(Sentences s) {
        s.promise(9);
        s.of("Of pane p: 0 how many corners, 1 and 2 x and y of its box's lower left corner", """
            window(12, 1): 1
            pane(0, 0..9): 4 0 0 12 1 0 255 8 0 0
            glass(0, 2, 129): 1
            colours(1): 1
            pane(0, 0..9): 4 0 0 12 1 2 129 0 0 0
            """, Windows.STALK + """
            pane(0, 0..9): 9 0 0 3 3 0 255 8 3 1
            pane(1, 0..9): 3 1 1 1 1 0 255 8 3 0
            glass(1, 1, 128): 1
            colours(100): 1
            pane(1, 0..9): 3 1 1 1 1 1 128 7 3 0
            """, Windows.PENDANT + """
            pane(0, 0..9): 8 0 0 4 4 0 255 8 3 0
            pane(1, 0..9): 3 1 0 2 1 0 255 8 3 0
            """);
        s.nothing("NOTHING.", "pane(0, 0)", "pane(0, 10)", "pane(-1, 0)");
        s.of("BEYOND: there is no such pane, or another what.", Windows.CROSS + """
            pane(4, 0): -1
            pane(-1, 0): -1
            pane(2147483647, 7): -1
            pane(-2147483648, 7): -1
            pane(0, 10): -1
            pane(0, -1): -1
            pane(0, 2147483647): -1
            pane(0, -2147483648): -1
            pane(4, 10): -1
            pane(3, 9): 0
            found(-1): 9
            """, Windows.FULLEST + """
            pane(106, 5): -1
            pane(105, 5): 0
            """);
    }

    private static void area(Sentences s) {
        s.promise(10);
        s.of("The whole part of 1000000 times the area of pane p.", """
            window(12, 12): 1
            area(0): 144000000
            window(1, 1): 1
            area(0): 1000000
            lead(0, 0, 1, 1): 0
            area(0..1): 500000
            """, """
            window(12, 12): 1
            lead(2, 12, 1, 0): 0
            lead(11, 12, 0, 5): 1
            lead(10, 0, 0, 7): 2
            pane(4, 0): 3
            area(4): 0
            """, """
            window(3, 3): 1
            lead(0, 1, 3, 2): 0
            lead(1, 0, 2, 3): 1
            area(0..3): 1500000 3000000 3000000 1500000
            """, """
            window(2, 2): 1
            lead(0, 0, 2, 1): 0
            lead(0, 2, 1, 0): 1
            area(0..3): 200000 800000 800000 2200000
            """, """
            window(12, 12): 1
            lead(0, 5, 12, 7): 0
            lead(0, 12, 1, 1): 1
            lead(1, 12, 2, 2): 2
            lead(2, 12, 3, 3): 3
            lead(3, 12, 4, 4): 4
            lead(4, 12, 5, 1): 5
            lead(5, 12, 6, 2): 6
            lead(6, 12, 7, 3): 7
            lead(7, 12, 8, 4): 8
            lead(8, 12, 9, 1): 9
            lead(9, 12, 10, 2): 10
            lead(10, 12, 11, 3): 11
            count(5..6): 11 13
            pane(0, 0): 15
            area(0): 72000000
            """, NEXT_TO_WHOLE + """
            at(16, 16): 4
            pane(4, 0): 5
            area(4): 21901700
            """, Windows.FULLEST + """
            area(0..9): 23359728 2846153 5600000 1971428 2228571 1200000 8276541 1930434 3000000 1200000
            area(10..19): 571428 7761904 2217682 28571 512747 123285 4917401 141038 155091 503907
            area(20..29): 6161 12931 14673 32792 11666666 40341 23138 28512 18834 331165
            area(30..39): 10888 199259 1100 7040 608 186 1737 4184 2153 1762
            area(40..49): 2661 71428 79285 6978 397 237054 334568 20401 11847 258999
            area(50..59): 1014 11997 16573 22960 89152 14470 1493212 848 12550 1735
            area(60..69): 47619 10391 736063 422727 36923 2444 8403 3678 183918 26569
            area(70..79): 10009 607 118421 34849 442 2143 1509 3134 200000 7894
            area(80..89): 117527 3882 797 43364 1753846 168 415845 48352 71635 13036
            area(90..99): 14550042 313533 327272 162784 14472727 2923285 222810 1650000 6664862 2800000
            area(100..105): 2000000 3924179 1274096 2428571 750000 1571428
            """);
        s.nothing("NOTHING.", "area(0)", "area(-1)", "area(2147483647)");
        s.of("BEYOND: there is no such pane.", Windows.CROSS + """
            area(4): -1
            area(-1): -1
            area(2147483647): -1
            area(-2147483648): -1
            area(3): 4000000
            found(-1): 4
            """, Windows.FULLEST + """
            area(106): -1
            """);
    }

    private static void touch(Sentences s) {
        s.promise(11);
        s.of("Along how many pieces two panes touch (of p and p: it itself).", """
            window(1, 1): 1
            touch(0, 0): 0
            """, Windows.CROSS + """
            touch(0, 0..3): 0 1 1 0
            touch(1, 0..3): 1 0 0 1
            touch(2, 0..3): 1 0 0 1
            touch(3, 0..3): 0 1 1 0
            """, Windows.STALK + """
            touch(0, 0..1): 1 3
            touch(1, 0..1): 3 0
            """, """
            window(6, 3): 1
            lead(0, 1, 3, 1): 0
            lead(1, 1, 1, 2): 1
            lead(3, 1, 4, 1): 2
            lead(4, 1, 4, 2): 3
            lead(4, 2, 3, 1): 4
            count(5): 1
            touch(0, 0): 2
            touch(0, 1): 3
            """);
        s.nothing("NOTHING.", "touch(0, 0)", "touch(-1, 0)", "touch(0, -1)");
        s.of("BEYOND: one of them isn't there.", Windows.CROSS + """
            touch(4, 0): -1
            touch(0, 4): -1
            touch(-1, 0): -1
            touch(0, -1): -1
            touch(4, 4): -1
            touch(-1, -1): -1
            touch(-2, 0): -1
            touch(2147483647, 0): -1
            touch(0, -2147483648): -1
            touch(3, 3): 0
            found(-1): 9
            """, Windows.FULLEST + """
            touch(106, 0): -1
            touch(0, 106): -1
            touch(105, 105): 0
            """);
    }

    private static void at(Sentences s) {
        s.promise(12);
        s.of("The pane in which the point x / 2, y / 2 lies.", """
            window(1, 1): 1
            at(1, 1): 0
            window(12, 12): 1
            at(1, 1): 0
            at(23, 23): 0
            at(1, 23): 0
            at(23, 1): 0
            """, Windows.CROSS + """
            at(2, 1): 0
            at(1, 2): 1
            at(7, 2): 2
            at(2, 7): 3
            at(4, 3): 0
            at(3, 4): 1
            at(5, 4): 2
            at(4, 5): 3
            """, """
            window(3, 3): 1
            lead(1, 1, 2, 1): 0
            lead(2, 1, 2, 2): 1
            lead(2, 2, 1, 1): 2
            at(3, 2): 0
            at(2, 2): 0
            at(3, 3): 0
            """, """
            window(4, 4): 1
            lead(1, 1, 3, 1): 0
            lead(3, 1, 3, 3): 1
            lead(3, 3, 1, 3): 2
            lead(1, 3, 1, 1): 3
            lead(0, 2, 1, 2): 4
            at(4, 4): 1
            at(3, 3): 1
            at(7, 4): 0
            at(1, 3): 0
            at(1, 5): 0
            """);
        s.nothing("NOTHING.", "at(1, 1)", "at(0, 0)", "at(-1, 99)");
        s.of("BEYOND: it isn't inside the window (or on a side).", """
            window(4, 3): 1
            at(0, 3): -1
            at(8, 3): -1
            at(4, 0): -1
            at(4, 6): -1
            at(0, 0): -1
            at(8, 6): -1
            at(-1, 3): -1
            at(9, 3): -1
            at(4, -1): -1
            at(4, 7): -1
            at(2147483647, 3): -1
            at(-2147483648, 3): -1
            at(4, 2147483647): -1
            at(4, -2147483648): -1
            at(7, 5): 0
            at(1, 1): 0
            at(5, 7): -1
            at(7, 5): 0
            found(-1): 15
            """, """
            window(12, 12): 1
            at(24, 1): -1
            at(1, 24): -1
            at(23, 23): 0
            """);
        s.of("NONE: it lies on a firm piece.", Windows.CROSS + """
            at(4, 4): -7
            at(1, 1): -7
            at(7, 1): -7
            at(3, 3): -7
            at(1, 7): -7
            at(3, 4): 1
            found(-7): 5
            """, Windows.STALK + """
            at(1, 1): -7
            at(2, 2): -7
            at(3, 2): -7
            at(3, 3): -7
            at(4, 4): -7
            at(5, 5): 0
            """, """
            window(4, 4): 1
            lead(0, 2, 4, 2): 0
            lead(2, 1, 2, 3): 1
            at(4, 4): -7
            at(4, 3): 0
            at(4, 2): 0
            at(4, 5): 1
            """, """
            window(4, 4): 1
            lead(2, 1, 0, 3): 0
            lead(2, 1, 4, 3): 1
            at(4, 2): -7
            at(3, 1): 0
            at(5, 1): 0
            at(4, 1): 0
            at(4, 3): 1
            at(3, 3): -7
            """, """
            window(4, 4): 1
            lead(2, 3, 0, 1): 0
            lead(2, 3, 4, 1): 1
            at(4, 6): -7
            at(3, 7): 1
            at(5, 7): 1
            at(4, 7): 1
            at(4, 5): 0
            """, """
            window(4, 4): 1
            lead(2, 2, 4, 2): 0
            lead(2, 2, 4, 4): 1
            at(4, 4): -7
            at(3, 4): 0
            at(2, 4): 0
            at(3, 3): 0
            at(5, 4): -7
            at(6, 5): 1
            """);
    }
}

/** Edges of IMAGES, of their WAY, TIME and STRENGTH, of HIDDEN and HEARD, and of the calls mirror, path, heard. */
final class ImageEdges {
    private static final int BAD = EchoSeats.BAD, NO = EchoSeats.NO, NONE = EchoSeats.NONE;
    private static final int[] FAR = {Integer.MIN_VALUE, Integer.MIN_VALUE + 1, -1000000, -4, 4, Integer.MAX_VALUE - 1, Integer.MAX_VALUE};

    private ImageEdges() { }

    private static void whichImagesThereAre() {
        EchoSeats x = Due.made("s1 1;");
        int images = 0;
        for (int i = -7; i <= 7; i++) {
            for (int j = -7; j <= 7; j++) {
                int order = Math.abs(i) + Math.abs(j);
                String image = "(" + i + ", " + j + ")";
                Due.is("ORDER of " + image, x.mirror(i, j, 2), order <= 3 ? order : NO);
                Due.holds("a path of " + image, (x.path(0, i, j, 0) == BAD) == (order > 3));
                x.forget();
                Due.is("sees" + image, x.sees(i, j, 0), order <= 3 ? 1 : BAD);
                if (order <= 3) images++;
            }
        }
        Due.is("so many are heard in a room without curtains", x.sound(0, 0), images);
        // Numbers whose sum, or whose number without sign, would wrap round.
        int[] far = {Integer.MIN_VALUE, Integer.MIN_VALUE + 3, Integer.MAX_VALUE, Integer.MAX_VALUE - 3, 0, 1, -3};
        for (int i : far) {
            for (int j : far) {
                if (Math.abs((long) i) + Math.abs((long) j) <= 3) continue;
                Due.is("mirror(" + i + ", " + j + ", 2)", x.mirror(i, j, 2), NO);
                Due.is("path(0, " + i + ", " + j + ", 0)", x.path(0, i, j, 0), BAD);
                Due.is("sees(" + i + ", " + j + ", 0)", x.sees(i, j, 0), BAD);
            }
        }
    }

    private static void whereImagesAre() {
        EchoSeats x = Due.made("r7 5;q2 1;");
        int[] xs = {-16, -12, -2, 2, 12, 16, 26};
        int[] ys = {-11, -9, -1, 1, 9, 11, 19};
        for (int n = -3; n <= 3; n++) {
            Due.is("x of (" + n + ", 0)", x.mirror(n, 0, 0), xs[n + 3]);
            Due.is("y of (" + n + ", 0)", x.mirror(n, 0, 1), 1);
            Due.is("y of (0, " + n + ")", x.mirror(0, n, 1), ys[n + 3]);
            Due.is("x of (0, " + n + ")", x.mirror(0, n, 0), 2);
        }
        Due.is("x of (-1, 2)", x.mirror(-1, 2, 0), -2);
        Due.is("y of (-1, 2)", x.mirror(-1, 2, 1), 11);
        EchoSeats corner = Due.made("r20 20;q0 20;");
        Due.is("the farthest x", corner.mirror(3, 0, 0), 80);
        Due.is("x of (-3, 0)", corner.mirror(-3, 0, 0), -40);
        Due.is("the farthest y below", corner.mirror(0, -3, 1), -60);
        Due.is("y of (0, 3)", corner.mirror(0, 3, 1), 60);
    }

    /** By a room in which one wall alone swallows. */
    private static int passes(int wall, int i, int j) {
        StringBuilder text = new StringBuilder();
        for (int w = 0; w < 4; w++) text.append("w" + w + (w == wall ? " 1;" : " 0;"));
        return Due.made(text.toString()).mirror(i, j, 3);
    }

    private static void wallsGoneBy() {
        int[] low = {2, 1, 1, 0, 0, 1, 1};
        int[] high = {1, 1, 0, 0, 1, 1, 2};
        for (int n = -3; n <= 3; n++) {
            Due.is("WEST of (" + n + ", 0)", passes(0, n, 0), low[n + 3]);
            Due.is("EAST of (" + n + ", 0)", passes(1, n, 0), high[n + 3]);
            Due.is("SOUTH of (" + n + ", 0)", passes(2, n, 0), 0);
            Due.is("NORTH of (" + n + ", 0)", passes(3, n, 0), 0);
            Due.is("WEST of (0, " + n + ")", passes(0, 0, n), 0);
            Due.is("EAST of (0, " + n + ")", passes(1, 0, n), 0);
            Due.is("SOUTH of (0, " + n + ")", passes(2, 0, n), low[n + 3]);
            Due.is("NORTH of (0, " + n + ")", passes(3, 0, n), high[n + 3]);
        }
    }

    private static EchoSeats apart(int x, int y) {
        return Due.made("r20 20;q0 0;s" + x + " " + y + ";");
    }

    private static void waysSquared() {
        Due.is("not apart", apart(0, 0).path(0, 0, 0, 0), 0);
        Due.is("x alone", apart(1, 0).path(0, 0, 0, 0), 1);
        Due.is("y alone", apart(0, 20).path(0, 0, 0, 0), 400);
        Due.is("both", apart(20, 20).path(0, 0, 0, 0), 800);
        Due.is("the longest", apart(0, 20).path(0, 3, 0, 0), 6800);
        Due.is("an image on the source's own place", apart(3, 4).path(0, -1, -1, 0), 25);
    }

    private static void wholeRoots() {
        int[][] due = {{0, 0, 0}, {1, 0, 10}, {1, 1, 14}, {2, 0, 20}, {5, 0, 50}, {5, 1, 50}, {7, 7, 98}, {20, 2, 200}, {20, 0, 200},
            {19, 19, 268}, {20, 20, 282}};
        for (int[] d : due) {
            // 2600, 9800, 40400 are one less than the squares of 51, 99, 201.
            Due.is("TIME for " + d[0] + ", " + d[1], apart(d[0], d[1]).path(0, 0, 0, 1), d[2]);
        }
        Due.is("the longest TIME", apart(0, 20).path(0, 3, 0, 1), 824);
    }

    private static void strengths() {
        Due.is("no WAY", apart(0, 0).path(0, 0, 0, 2), 1000000);
        Due.is("WAY 1", apart(1, 0).path(0, 0, 0, 2), 500000);
        Due.is("WAY 2, cut", apart(1, 1).path(0, 0, 0, 2), 333333);
        Due.is("once by a wall", apart(0, 0).path(0, -1, 0, 2), 800000);
        Due.is("by two walls", apart(0, 0).path(0, -1, -1, 2), 640000);
        EchoSeats x = Due.made("r2 2;w0 9;w1 9;w2 0;w3 10;q2 0;s2 0;");
        Due.is("three times a tenth", x.path(0, 3, 0, 2), 1000 / 17);
        Due.is("a wall that swallows nothing", x.path(0, 0, -1, 2), 1000000);
        Due.is("a wall that swallows all", x.path(0, 0, 1, 2), 0);
        Due.is("a wall that swallows all, gone by once of three times", x.path(0, 0, -3, 2), 0);
        EchoSeats far = Due.made("r20 2;w0 9;w1 9;q0 0;s0 0;");
        Due.is("less than 1 is cut to 0", far.path(0, 3, 0, 2), 0);
        Due.is("and it is not HIDDEN", far.path(0, 3, 0, 3), 0);
        Due.is("what the other walls swallow does not matter", Due.made("w1 10;w2 10;w3 10;s1 1;").path(0, -1, 0, 2), 160000);
    }

    private static void hides(String text, int i, int j, boolean due) {
        Due.is("'" + text + "' hides (" + i + ", " + j + ")", Due.made(text).path(0, i, j, 3), due ? 1 : 0);
    }

    private static void betweenBoth() {
        for (int at = 1; at <= 9; at++) {
            String curtain = "c" + at + " 0 8;";
            hides("q2 4;s6 4;" + curtain, 0, 0, at >= 3 && at <= 5);
            hides("q6 4;s2 4;" + curtain, 0, 0, at >= 3 && at <= 5);
            // (1, 0) at 18: the curtain is seen at 20 less its x.
            hides("q2 4;s6 4;" + curtain, 1, 0, at >= 3);
            // (-1, 0) at -2: the curtain is seen at its x below 0.
            hides("q2 4;s1 4;" + curtain, -1, 0, at == 1);
            hides("q2 4;s0 4;" + curtain, -1, 0, at == 1);
            // The line goes along one x.
            hides("q5 1;s5 7;" + curtain, 0, 0, false);
            hides("q5 1;s5 7;" + curtain, 0, 3, false);
        }
        hides("q2 4;s6 4;", 0, 0, false);
    }

    private static void anyWholeMirror() {
        // East: from 38, 0 to 10, 8, and a curtain seen at 35, 25 and 15, where y is .86, 3.7 and 6.6.
        String east = "q2 0;s10 8;c5 ";
        // West: from -28, 0 to 0, 8, seen at -25, -15 and -5, where y is the same.
        String west = "q8 0;s0 8;c5 ";
        for (int side = 0; side < 2; side++) {
            String text = side == 0 ? east : west;
            int i = side == 0 ? 3 : -3;
            hides(text + "0 1;", i, 0, true);
            hides(text + "3 4;", i, 0, true);
            hides(text + "6 7;", i, 0, true);
            hides(text + "0 0;", i, 0, false);
            hides(text + "1 3;", i, 0, false);
            hides(text + "4 6;", i, 0, false);
            hides(text + "7 8;", i, 0, false);
        }
    }

    private static void endsHide() {
        // From 0, 0 to 10, 8: y is 4 at 5, 3.2 at 4, 4.8 at 6.
        String text = "q0 0;s10 8;";
        hides(text + "c5 4 4;", 0, 0, true);
        hides(text + "c5 4 8;", 0, 0, true);
        hides(text + "c5 0 4;", 0, 0, true);
        hides(text + "c5 5 8;", 0, 0, false);
        hides(text + "c5 0 3;", 0, 0, false);
        hides(text + "c4 3 3;", 0, 0, false);
        hides(text + "c4 3 4;", 0, 0, true);
        hides(text + "c4 4 8;", 0, 0, false);
        hides(text + "c6 0 4;", 0, 0, false);
        hides(text + "c6 4 5;", 0, 0, true);
        hides(text + "c6 5 8;", 0, 0, false);
        // From 0, 0 to 20, 1: y is a twentieth at 1, nineteen of them at 19.
        String flat = "r20 20;q0 0;s20 1;";
        hides(flat + "c1 0 0;", 0, 0, false);
        hides(flat + "c1 0 1;", 0, 0, true);
        hides(flat + "c1 1 20;", 0, 0, false);
        hides(flat + "c19 0 0;", 0, 0, false);
        hides(flat + "c19 1 20;", 0, 0, false);
        hides(flat + "c19 0 1;", 0, 0, true);
        // Along the walls.
        hides("q0 0;s10 0;c5 0 0;", 0, 0, true);
        hides("q0 0;s10 0;c5 1 8;", 0, 0, false);
        hides("q0 8;s10 8;c5 8 8;", 0, 0, true);
        hides("q0 8;s10 8;c5 0 7;", 0, 0, false);
    }

    private static void foldedUp() {
        // (0, 1) at 0, 16, (0, 3) at 0, 32; the lines fall to 10, 8.
        String text = "q0 0;s10 8;";
        hides(text + "c8 6 7;", 0, 1, true);
        hides(text + "c8 1 2;", 0, 1, false);
        hides(text + "c4 6 7;", 0, 3, true);
        hides(text + "c4 1 2;", 0, 3, false);
        hides(text + "c8 3 4;", 0, 3, true);
        hides(text + "c8 4 5;", 0, 3, false);
        hides(text + "c1 2 3;", 0, 3, true);
        hides(text + "c1 5 6;", 0, 3, false);
        hides(text + "c3 7 8;", 0, 3, true);
        hides(text + "c3 0 1;", 0, 3, false);
        // To 10, 0: y is 8, then 16 in the middle.
        hides("q0 0;s10 0;c5 8 8;", 0, 1, true);
        hides("q0 0;s10 0;c5 0 7;", 0, 1, false);
        hides("q0 0;s10 0;c5 0 0;", 0, 3, true);
        hides("q0 0;s10 0;c5 1 8;", 0, 3, false);
    }

    private static void foldedDown() {
        // (0, -1) at 0, -8, (0, -3) at 0, -24; the lines rise to 10, 0.
        String text = "q0 8;s10 0;";
        hides(text + "c2 6 7;", 0, -1, true);
        hides(text + "c2 1 2;", 0, -1, false);
        hides(text + "c1 5 6;", 0, -3, true);
        hides(text + "c1 2 3;", 0, -3, false);
        hides(text + "c4 1 2;", 0, -3, true);
        hides(text + "c4 6 7;", 0, -3, false);
        hides(text + "c8 4 5;", 0, -3, true);
        hides(text + "c8 3 4;", 0, -3, false);
        // To 10, 8: y is 0, then -8 in the middle.
        hides("q0 8;s10 8;c5 0 0;", 0, -1, true);
        hides("q0 8;s10 8;c5 1 8;", 0, -1, false);
        hides("q0 8;s10 8;c5 8 8;", 0, -3, true);
        hides("q0 8;s10 8;c5 0 7;", 0, -3, false);
    }

    private static void heardInOrder() {
        // In the middle of a square many come at the same TIME.
        int[] due = {303, 203, 302, 304, 403, 202, 204, 402, 404, 103, 301, 305, 503,
            102, 104, 201, 205, 401, 405, 502, 504, 3, 300, 306, 603};
        EchoSeats x = Due.made("r4 4;q2 2;s2 2;");
        for (int k = 0; k < due.length; k++) Due.is("heard(0, " + k + ", 2)", x.heard(0, k, 2), due[k]);
        // (-1, 1), (0, 1), (1, 1) all take 200, though WAYS squared are 404, 400, 404.
        EchoSeats narrow = Due.made("r2 12;q1 2;s1 2;");
        int[] next = {204, 304, 404};
        for (int k = 0; k < 3; k++) {
            Due.is("TIME of the " + (12 + k) + "th", narrow.heard(0, 12 + k, 0), 200);
            Due.is("which is the " + (12 + k) + "th", narrow.heard(0, 12 + k, 2), next[k]);
        }
        Due.holds("the one before comes sooner", narrow.heard(0, 11, 0) < 200);
        Due.holds("the one behind comes later", narrow.heard(0, 15, 0) > 200);
    }

    private static void hiddenOnesAreNotHeard() {
        EchoSeats x = Due.made("w0 10;w1 10;w2 10;w3 10;s1 1;c5 1 1;");
        int hidden = 0;
        for (int i = -3; i <= 3; i++) {
            for (int j = -3; j <= 3; j++) {
                if (x.path(0, i, j, 3) == 1) hidden++;
            }
        }
        Due.holds("some are hidden, some are not", hidden > 0 && hidden < 25);
        Due.is("how many are heard", x.sound(0, 0), 25 - hidden);
        Due.is("SOUND of one that is stronger than 0", x.sound(0, 1), 1000000);
        for (int k = 0; k < 25 - hidden; k++) {
            int which = x.heard(0, k, 2);
            Due.is("is the " + k + "th hidden", x.path(0, which / 100 - 3, which % 100 - 3, 3), 0);
            Due.is("STRENGTH of the " + k + "th", x.heard(0, k, 1), k == 0 ? 1000000 : 0);
        }
        Due.is("behind the last", x.heard(0, 25 - hidden, 2), NONE);
    }

    // ---- the promises

    private static void mirror() {
        EchoSeats x = Due.made("w0 0;w1 1;w2 10;w3 0;");
        Due.is("an x of -1 is no refusal", x.mirror(-1, 0, 0), -1);
        Due.is("a y of -1 is no refusal", x.mirror(0, -1, 1), -1);
        Due.is("an image in a room without a seat", x.mirror(0, 0, 0), 1);
        Due.is("ORDER 0", x.mirror(0, 0, 2), 0);
        Due.is("ORDER 3", x.mirror(-1, 2, 2), 3);
        Due.is("by no wall", x.mirror(0, 0, 3), 0);
        Due.is("by WEST, which swallows 0", x.mirror(-1, 0, 3), 0);
        Due.is("by EAST, which swallows 1", x.mirror(1, 0, 3), 1);
        Due.is("by SOUTH, which swallows 10", x.mirror(0, -1, 3), 1);
        Due.is("by EAST twice, WEST once", x.mirror(3, 0, 3), 2);
        Due.is("mirror(0, 0, -1)", x.mirror(0, 0, -1), NO);
        Due.is("mirror(0, 0, 4)", x.mirror(0, 0, 4), NO);
        Due.is("mirror(2, 2, 0)", x.mirror(2, 2, 0), NO);
        for (int far : FAR) {
            Due.is("mirror(" + far + ", 0, 0)", x.mirror(far, 0, 0), NO);
            Due.is("mirror(0, " + far + ", 0)", x.mirror(0, far, 0), NO);
            Due.is("mirror(0, 0, " + far + ")", x.mirror(0, 0, far), NO);
        }
    }

    private static void no() {
        Due.is("NO", NO, -1000000);
        Due.is("mirror() of no image", new EchoSeats().mirror(4, 0, 0), -1000000);
        Due.is("mirror() of no such thing", new EchoSeats().mirror(0, 0, 4), -1000000);
        Due.is("elsewhere it is BAD", new EchoSeats().path(0, 0, 0, 0), -1);
    }

    private static void path() {
        Due.is("no seat", new EchoSeats().path(0, 0, 0, 0), BAD);
        EchoSeats x = Due.made("s1 1;s9 1;c5 1 1;");
        int[] due = {64, 80, 15384, 1};
        for (int what = 0; what < 4; what++) Due.is("path(1, 0, 0, " + what + ")", x.path(1, 0, 0, what), due[what]);
        Due.is("path(-1, 0, 0, 0)", x.path(-1, 0, 0, 0), BAD);
        Due.is("path(2, 0, 0, 0)", x.path(2, 0, 0, 0), BAD);
        Due.is("path(0, 0, 0, -1)", x.path(0, 0, 0, -1), BAD);
        Due.is("path(0, 0, 0, 4)", x.path(0, 0, 0, 4), BAD);
        Due.is("path(0, 2, 2, 0)", x.path(0, 2, 2, 0), BAD);
        Due.is("path(0, 0, 0, 3)", x.path(0, 0, 0, 3), 0);
        for (int far : FAR) {
            Due.is("path(" + far + ", 0, 0, 0)", x.path(far, 0, 0, 0), BAD);
            Due.is("path(0, " + far + ", 0, 0)", x.path(0, far, 0, 0), BAD);
            Due.is("path(0, 0, " + far + ", 0)", x.path(0, 0, far, 0), BAD);
            Due.is("path(0, 0, 0, " + far + ")", x.path(0, 0, 0, far), BAD);
        }
        EchoSeats full = Due.made("s1 1;s1 1;s1 1;s2 1;");
        Due.is("path(3, 0, 0, 0)", full.path(3, 0, 0, 0), 1);
        Due.is("path(4, 0, 0, 0)", full.path(4, 0, 0, 0), BAD);
    }

    private static void heard() {
        Due.is("no seat", new EchoSeats().heard(0, 0, 0), BAD);
        EchoSeats x = Due.made("s1 2;");
        int[] due = {10, 500000, 303};
        for (int what = 0; what < 3; what++) Due.is("heard(0, 0, " + what + ")", x.heard(0, 0, what), due[what]);
        Due.is("heard(0, -1, 0)", x.heard(0, -1, 0), BAD);
        Due.holds("heard(0, 24, 0)", x.heard(0, 24, 0) > 0);
        Due.is("heard(0, 25, 0)", x.heard(0, 25, 0), NONE);
        Due.is("heard(0, MAX, 2)", x.heard(0, Integer.MAX_VALUE, 2), NONE);
        Due.is("heard(0, MIN, 2)", x.heard(0, Integer.MIN_VALUE, 2), BAD);
        Due.is("heard(0, 0, -1)", x.heard(0, 0, -1), BAD);
        Due.is("heard(0, 0, 3)", x.heard(0, 0, 3), BAD);
        Due.is("heard(0, 25, 3)", x.heard(0, 25, 3), BAD);
        Due.is("heard(-1, 0, 0)", x.heard(-1, 0, 0), BAD);
        Due.is("heard(1, 0, 0)", x.heard(1, 0, 0), BAD);
        for (int far : FAR) {
            Due.is("heard(" + far + ", 0, 0)", x.heard(far, 0, 0), BAD);
            Due.is("heard(0, 0, " + far + ")", x.heard(0, 0, far), BAD);
        }
        EchoSeats silent = Due.made("r20 20;q20 20;s0 0;c1 0 20;");
        Due.is("nothing is heard", silent.heard(0, 0, 0), NONE);
        Due.is("nothing is heard, and no such thing", silent.heard(0, 0, 3), BAD);
    }

    static void run() {
        Edge.of("IMAGES (i, j), i and j -3 .. 3, both without sign together 3 at most (its ORDER):", ImageEdges::whichImagesThereAre);
        Edge.of("at x: i times LENGTH, and x of THE SOURCE, if i is even, else LENGTH less that; y likewise by j, BREADTH.",
                ImageEdges::whereImagesAre);
        Edge.of("It has gone by WALLS: for i above 0 EAST (i and 1 by 2, cut, times), WEST (i by 2, cut), for i below 0 (without sign)"
                + " WEST (i and 1 by 2), EAST (i by 2); for j above 0 NORTH, SOUTH, below 0 SOUTH, NORTH likewise.", ImageEdges::wallsGoneBy);
        Edge.of("WAY to a place, squared: the squares of what x, and y, are apart, together.", ImageEdges::waysSquared);
        Edge.of("TIME: the whole root of 100 times that.", ImageEdges::wholeRoots);
        Edge.of("STRENGTH: 1000000; for each time it has gone by a WALL (WEST first, then EAST, SOUTH, NORTH)"
                + " times 10 less what that SWALLOWS, by 10, cut; then by WAY squared and 1, cut.", ImageEdges::strengths);
        Edge.of("HIDDEN (at a place): the straight line from the IMAGE to the place crosses a CURTAIN as it is seen in the mirrors:"
                + " at x being k times LENGTH, and the CURTAIN's x, if k is even, else LENGTH less that (k any whole number),",
                ImageEdges::anyWholeMirror);
        Edge.of("if that lies between both x (not at one of them);", ImageEdges::betweenBoth);
        Edge.of("y there, folded back into THE ROOM (from m times BREADTH to the next one: what is above that, if m is even,",
                ImageEdges::foldedUp);
        Edge.of("else BREADTH less that),", ImageEdges::foldedDown);
        Edge.of("lies from A to B (A and B, too).", ImageEdges::endsHide);
        Edge.of("HEARD at a place: IMAGES that are not HIDDEN, by TIME, then by i, then j;", ImageEdges::heardInOrder);
        Edge.of("those of STRENGTH 0, too. SOUND: their STRENGTHS together.", ImageEdges::hiddenOnesAreNotHeard);
        Edge.of("The constants: `NO = -1000000`: What is BAD, where a number may be below 0.", ImageEdges::no);
        Edge.of("Of an IMAGE: 0 x, 1 y, 2 ORDER, 3 how often it has gone by WALLS that SWALLOW more than 0. NO: BAD.", ImageEdges::mirror);
        Edge.of("Of an IMAGE at a SEAT: 0 WAY squared, 1 TIME, 2 STRENGTH, 3 whether it is HIDDEN (1, 0). BAD.", ImageEdges::path);
        Edge.of("Of the k-th that is HEARD at a SEAT (0 on): 0 TIME, 1 STRENGTH, 2 which (100 times i and 3, and j and 3);"
                + " NONE: not so many. BAD.", ImageEdges::heard);
    }
}

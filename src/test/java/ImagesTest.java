/** Promises 12 and 13: mirror, path. */
public final class ImagesTest {
    private static void places() {
        EchoSeats x = new EchoSeats();
        int[] xs = {-21, -19, -1, 1, 19, 21, 39};
        int[] ys = {-17, -15, -1, 1, 15, 17, 31};
        for (int n = -3; n <= 3; n++) {
            Due.is("x of (" + n + ", 0)", x.mirror(n, 0, 0), xs[n + 3]);
            Due.is("y of (0, " + n + ")", x.mirror(0, n, 1), ys[n + 3]);
            Due.is("ORDER of (" + n + ", 0)", x.mirror(n, 0, 2), Math.abs(n));
        }
        Due.is("ORDER of (2, -1)", x.mirror(2, -1, 2), 3);
        Due.is("ORDER of (-1, -1)", x.mirror(-1, -1, 2), 2);
    }

    /** One wall swallows, so that its passes alone are told. */
    private static void passes(int wall, int i, int j, int due) {
        StringBuilder text = new StringBuilder();
        for (int w = 0; w < 4; w++) {
            text.append("w" + w + " " + (w == wall ? 1 : 0) + ";");
        }
        EchoSeats x = Due.made(text.toString());
        Due.is("(" + i + ", " + j + ") by wall " + wall, x.mirror(i, j, 3), due);
    }

    private static void wallsGoneBy() {
        passes(0, 3, 0, 1);
        passes(1, 3, 0, 2);
        passes(0, -3, 0, 2);
        passes(1, -3, 0, 1);
        passes(0, 2, 1, 1);
        passes(1, 2, 1, 1);
        passes(2, 2, 1, 0);
        passes(3, 2, 1, 1);
        passes(2, 2, -1, 1);
        passes(2, 0, -3, 2);
        passes(3, 0, -3, 1);
        passes(2, 0, 3, 1);
        passes(3, 0, 3, 2);
        passes(0, 1, 0, 0);
        passes(0, -1, 0, 1);
        passes(0, 0, 0, 0);
        Due.is("all walls swallow", new EchoSeats().mirror(2, 1, 3), 3);
    }

    private static void noImages() {
        EchoSeats x = Due.made("s0 0;");
        int[][] none = {{2, 2}, {-4, 0}, {4, 0}, {0, 4}, {0, -4}, {3, -1}, {-2, 2},
            {Integer.MIN_VALUE, 0}, {0, Integer.MIN_VALUE}, {Integer.MIN_VALUE, Integer.MIN_VALUE},
            {Integer.MAX_VALUE, 1}, {Integer.MAX_VALUE, Integer.MAX_VALUE}};
        for (int[] n : none) {
            Due.is("mirror(" + n[0] + ", " + n[1] + ", 0)", x.mirror(n[0], n[1], 0), EchoSeats.NO);
            Due.is("path(0, " + n[0] + ", " + n[1] + ", 0)", x.path(0, n[0], n[1], 0), EchoSeats.BAD);
        }
        Due.is("mirror(0, 0, 4)", x.mirror(0, 0, 4), EchoSeats.NO);
        Due.is("mirror(0, 0, -1)", x.mirror(0, 0, -1), EchoSeats.NO);
        Due.is("path(0, 0, 0, 4)", x.path(0, 0, 0, 4), EchoSeats.BAD);
        Due.is("path(0, 0, 0, -1)", x.path(0, 0, 0, -1), EchoSeats.BAD);
        Due.is("path(1, 0, 0, 0)", x.path(1, 0, 0, 0), EchoSeats.BAD);
        Due.is("path(-1, 0, 0, 0)", x.path(-1, 0, 0, 0), EchoSeats.BAD);
    }

    private static void ways() {
        EchoSeats x = Due.made("s4 5;s1 1;");
        Due.is("WAY of (0, 0)", x.path(0, 0, 0, 0), 25);
        Due.is("TIME of (0, 0)", x.path(0, 0, 0, 1), 50);
        Due.is("STRENGTH of (0, 0)", x.path(0, 0, 0, 2), 38461);
        Due.is("HIDDEN of (0, 0)", x.path(0, 0, 0, 3), 0);
        Due.is("WAY of (1, 0)", x.path(0, 1, 0, 0), 241);
        Due.is("TIME of (1, 0), cut", x.path(0, 1, 0, 1), 155);
        Due.is("STRENGTH of (1, 0)", x.path(0, 1, 0, 2), 3305);
        Due.is("WAY of none", x.path(1, 0, 0, 0), 0);
        Due.is("TIME of none", x.path(1, 0, 0, 1), 0);
        Due.is("STRENGTH of no WAY", x.path(1, 0, 0, 2), 1000000);
        EchoSeats wide = Due.made("r20 20;w1 10;q0 0;s0 20;");
        Due.is("the longest WAY", wide.path(0, 3, 0, 0), 6800);
        Due.is("the longest TIME", wide.path(0, 3, 0, 1), 824);
        Due.is("all swallowed", wide.path(0, 3, 0, 2), 0);
    }

    private static void strengthByWalls() {
        EchoSeats x = Due.made("w0 1;w1 3;w2 4;w3 5;s1 1;");
        // WAYS: (-3, 0) 22 squared, (3, 0) 38 squared, (0, -3) 18 squared, (0, 3) 30 squared
        Due.is("(-3, 0)", x.path(0, -3, 0, 2), 567000 / 485);
        Due.is("(3, 0)", x.path(0, 3, 0, 2), 441000 / 1445);
        Due.is("(0, -3)", x.path(0, 0, -3, 2), 180000 / 325);
        Due.is("(0, 3)", x.path(0, 0, 3, 2), 150000 / 901);
        Due.is("(-1, 1)", x.path(0, -1, 1, 2), 450000 / 201);
    }

    private static void hidden(String text, int i, int j, int due) {
        EchoSeats x = Due.made(text);
        Due.is("'" + text + "' hides (" + i + ", " + j + ")", x.path(0, i, j, 3), due);
    }

    private static void curtainsHide() {
        hidden("s9 1;c5 1 1;", 0, 0, 1);
        hidden("s9 1;c5 2 8;", 0, 0, 0);
        hidden("s9 1;c5 0 1;", 0, 0, 1);
        hidden("s9 1;c5 1 8;", 0, 0, 1);
        hidden("s9 1;c5 0 0;", 0, 0, 0);
        // at the seat's or the source's x, or no x between
        hidden("s9 1;c9 0 8;", 0, 0, 0);
        hidden("s9 1;c1 0 8;", 0, 0, 0);
        hidden("s1 7;c1 0 8;", 0, 0, 0);
        hidden("s1 7;c2 0 8;", 0, 0, 0);
        // a y between whole ones: 1 and a third
        hidden("s4 2;c2 1 1;", 0, 0, 0);
        hidden("s4 2;c2 1 2;", 0, 0, 1);
        hidden("s4 2;c2 2 2;", 0, 0, 0);
        // the second or third curtain does it
        hidden("s9 1;c4 2 8;c5 1 1;", 0, 0, 1);
        hidden("s9 1;c4 2 8;c5 0 0;c8 1 1;", 0, 0, 1);
        hidden("s9 1;c4 2 8;c5 0 0;c8 2 2;", 0, 0, 0);
    }

    private static void curtainsInMirrors() {
        // (1, 0) at 19, 1: c5 is seen at 15, c4 at 16, c9 at 11
        hidden("s9 1;c5 1 1;", 1, 0, 1);
        hidden("s9 1;c9 1 1;", 1, 0, 1);
        hidden("s9 1;c1 1 1;", 1, 0, 0);
        // (-1, 0) at -1, 1: c1 is seen at -1, that is the IMAGE's own place
        hidden("s0 1;c1 1 1;", -1, 0, 0);
        hidden("q2 1;s0 1;c1 1 1;", -1, 0, 1);
        // the line from (0, 1) at 1, 15 is at y 8 in the middle, that is the wall itself
        hidden("s9 1;c5 8 8;", 0, 1, 1);
        hidden("s9 1;c5 0 7;", 0, 1, 0);
        hidden("s9 1;c5 0 0;", 0, -1, 1);
        hidden("s9 1;c5 1 8;", 0, -1, 0);
        // (0, 2) at 1, 17: y 9 there, folded 7
        hidden("s9 1;c5 7 7;", 0, 2, 1);
        hidden("s9 1;c5 0 6;", 0, 2, 0);
        hidden("s9 1;c5 8 8;", 0, 2, 0);
        // (0, -2) at 1, -15: y -7 there, folded 7
        hidden("s9 1;c5 7 7;", 0, -2, 1);
        hidden("s9 1;c5 0 6;", 0, -2, 0);
        // (0, 3) at 1, 31: y 16 there, folded 0
        hidden("s9 1;c5 0 0;", 0, 3, 1);
        hidden("s9 1;c5 1 8;", 0, 3, 0);
        // (3, 0) at 39, 1: seen in the third mirror alone, at 31
        hidden("s10 1;c9 1 1;", 3, 0, 1);
        hidden("s10 0;c9 1 1;", 3, 0, 0);
    }

    public static void main(String[] args) {
        places();
        wallsGoneBy();
        noImages();
        ways();
        strengthByWalls();
        curtainsHide();
        curtainsInMirrors();
        Due.end();
    }
}

/** Promises 1 to 7: a new object, type, clear, room, wall, seat, curtain. */
public final class TextTest {
    private static void newObject() {
        EchoSeats x = new EchoSeats();
        int[] counts = {10, 8, 1, 1, 0, 0, 0, 0, 0};
        for (int what = 0; what < counts.length; what++) {
            Due.is("new: count(" + what + ")", x.count(what), counts[what]);
        }
        for (int wall = 0; wall < 4; wall++) {
            Due.is("new: wall(" + wall + ")", x.wall(wall), 2);
        }
        Due.is("new: seat(0, 0)", x.seat(0, 0), EchoSeats.BAD);
        Due.is("new: curtain(0, 0)", x.curtain(0, 0), EchoSeats.BAD);
        Due.is("new: undo()", x.undo(), EchoSeats.STATE);
        Due.is("new: back(0)", x.back(0), EchoSeats.STATE);
        Due.is("new: back(1)", x.back(1), EchoSeats.STATE);
        Due.is("new: clear()", x.clear(), 0);
    }

    private static void letters() {
        EchoSeats x = new EchoSeats();
        Due.is("type(0)", x.type(0), 1);
        Due.is("type(255)", x.type(255), 2);
        Due.is("type(-1)", x.type(-1), EchoSeats.BAD);
        Due.is("type(256)", x.type(256), EchoSeats.BAD);
        Due.is("a refused letter is not counted", x.count(7), 2);
        Due.is("clear()", x.clear(), 2);
        Due.is("clear() again", x.clear(), 0);
        for (int n = 1; n <= 100; n++) {
            Due.is("type(32) for the " + n + "th time", x.type(32), n);
        }
        Due.is("type(32) into 100", x.type(32), EchoSeats.FULL);
        Due.is("BAD goes ahead of FULL", x.type(256), EchoSeats.BAD);
        Due.is("count(7)", x.count(7), 100);
        Due.is("100 blanks are no ITEMS", x.room(), 0);
        Due.is("the text is empty behind room()", x.count(7), 0);
    }

    private static void answers(String text, int due) {
        EchoSeats x = new EchoSeats();
        Due.is("room() of '" + text + "'", Due.tell(x, text), due);
        Due.is("letters left of '" + text + "'", x.count(7), due >= 0 ? 0 : text.length());
    }

    private static void goodTexts() {
        answers("", 0);
        answers("   ", 0);
        answers("r2 2;", 1);
        answers("  r  2  20 ;  ", 1);
        answers("r20 2;w 0 10 ;w3 0;", 3);
        answers("q0 0;q10 8;", 2);
        answers("r3 4;q3 4;s3 4;s0 0;c2 4 4;c1 0 4;", 6);
        answers("s0 0;s0 0;s0 0;s0 0;c1 0 0;c9 8 8;c5 0 8;", 7);
    }

    private static void faults() {
        answers(";", -10);
        answers("x", -10);
        answers("R2 2;", -10);
        answers("2", -10);
        answers("  ;", -12);
        answers("r", -11);
        answers("rr", -11);
        answers("r2 2", -14);
        answers("r2 2  ", -16);
        answers("r2 2;;", -15);
        answers("r2 2 2;", -15);
        answers("r22;", -11);
        answers("r1 2;", -11);
        answers("r2 1;", -13);
        answers("r21 2;", -11);
        answers("r02 2;", -11);
        answers("r2 00;", -13);
        answers("r2" + (char) 9 + "2;", -12);
        answers("r2 2;" + (char) 200, -15);
        answers("r2 2;r2 2;", -15);
        answers("s0 0;r5 5;", -15);
        answers("w4 0;", -11);
        answers("w0 11;", -13);
        answers("w10;", -11);
        answers("w1 1 ", -15);
        answers("q11 0;", -11);
        answers("q10 9;", -14);
        answers("q0 100;", -13);
        answers("q0 4294967296;", -13);
        answers("q0 18446744073709551617;", -13);
        answers("q 01 1;", -12);
        answers("s1;", -12);
        answers("s1 1 1;", -15);
        answers("r3 4;s4 0;", -16);
        answers("r3 4;s3 5;", -18);
        answers("r3 4;c3 0 1;", -16);
        answers("c0 0 0;", -11);
        answers("c10 0 0;", -11);
        answers("c1 9 9;", -13);
        answers("c1 2 1;", -15);
        answers("c1 2 9;", -15);
        answers("c1 2;", -14);
        answers("s0 0;s0 0;s0 0;s0 0;s0 0;", -30);
        answers("c1 0 0;c1 0 0;c1 0 0;c1 0 0;", -31);
        answers("s99 x", -11);
        answers("x s99", -10);
    }

    private static void toldLast() {
        EchoSeats x = Due.made("r6 4;w0 3;w0 5;w3 10;q2 2;q6 4;s1 2;s3 4;c1 0 2;c5 3 3;");
        int[] counts = {6, 4, 6, 4, 2, 2, 0, 0, 0};
        for (int what = 0; what < counts.length; what++) {
            Due.is("told: count(" + what + ")", x.count(what), counts[what]);
        }
        int[] walls = {5, 2, 2, 10};
        for (int wall = 0; wall < 4; wall++) {
            Due.is("told: wall(" + wall + ")", x.wall(wall), walls[wall]);
        }
        Due.is("wall(-1)", x.wall(-1), EchoSeats.BAD);
        Due.is("wall(4)", x.wall(4), EchoSeats.BAD);
        Due.is("seat(0, 0)", x.seat(0, 0), 1);
        Due.is("seat(0, 1)", x.seat(0, 1), 2);
        Due.is("seat(1, 0)", x.seat(1, 0), 3);
        Due.is("seat(1, 1)", x.seat(1, 1), 4);
        Due.is("seat(2, 0)", x.seat(2, 0), EchoSeats.BAD);
        Due.is("seat(-1, 0)", x.seat(-1, 0), EchoSeats.BAD);
        Due.is("seat(0, 2)", x.seat(0, 2), EchoSeats.BAD);
        Due.is("seat(0, -1)", x.seat(0, -1), EchoSeats.BAD);
        int[] curtain = {5, 3, 3};
        for (int what = 0; what < 3; what++) {
            Due.is("curtain(1, " + what + ")", x.curtain(1, what), curtain[what]);
        }
        Due.is("curtain(2, 0)", x.curtain(2, 0), EchoSeats.BAD);
        Due.is("curtain(-1, 0)", x.curtain(-1, 0), EchoSeats.BAD);
        Due.is("curtain(0, 3)", x.curtain(0, 3), EchoSeats.BAD);
        Due.is("curtain(0, -1)", x.curtain(0, -1), EchoSeats.BAD);
    }

    private static void faultChangesNothing() {
        EchoSeats x = Due.made("r6 4;w0 3;q2 2;s1 2;c1 0 2;");
        x.pads(1, 7);
        x.sees(0, 0, 10);
        x.keep(0);
        Due.is("a text that ends too early", Due.tell(x, "r5 5;w0 1;q0 0;s0 0;s1 1;c1 1 1"), -41);
        int[] counts = {6, 4, 2, 2, 1, 1, 1, 31, 1};
        for (int what = 0; what < counts.length; what++) {
            Due.is("behind a FAULT: count(" + what + ")", x.count(what), counts[what]);
        }
        Due.is("behind a FAULT: wall(0)", x.wall(0), 3);
        Due.is("behind a FAULT: wall(1)", x.wall(1), 7);
        Due.is("behind a FAULT: seat(0, 1)", x.seat(0, 1), 2);
        Due.is("behind a FAULT: curtain(0, 2)", x.curtain(0, 2), 2);
        Due.is("behind a FAULT: back(0)", x.back(0), 202);
        Due.is("the text goes on", x.type(';'), 32);
        Due.is("and is read whole", x.room(), 6);
        Due.is("count(0)", x.count(0), 5);
    }

    private static void readAnew() {
        EchoSeats x = Due.made("r6 4;w0 3;q2 2;s1 2;c1 0 2;");
        x.pads(1, 7);
        x.sees(0, 0, 10);
        x.keep(0);
        x.keep(1);
        Due.is("room() of no text", x.room(), 0);
        int[] counts = {10, 8, 1, 1, 0, 0, 0, 0, 0};
        for (int what = 0; what < counts.length; what++) {
            Due.is("read anew: count(" + what + ")", x.count(what), counts[what]);
        }
        for (int wall = 0; wall < 4; wall++) {
            Due.is("read anew: wall(" + wall + ")", x.wall(wall), 2);
        }
        Due.is("read anew: seat(0, 0)", x.seat(0, 0), EchoSeats.BAD);
        Due.is("read anew: curtain(0, 0)", x.curtain(0, 0), EchoSeats.BAD);
        Due.is("read anew: undo()", x.undo(), EchoSeats.STATE);
        Due.is("read anew: back(0)", x.back(0), EchoSeats.STATE);
        Due.is("read anew: back(1)", x.back(1), EchoSeats.STATE);
    }

    public static void main(String[] args) {
        newObject();
        letters();
        goodTexts();
        faults();
        toldLast();
        faultChangesNothing();
        readAnew();
        Due.end();
    }
}

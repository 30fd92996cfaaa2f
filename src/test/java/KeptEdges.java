/** Edges of what is kept, of reading anew, and of the calls keep, back, count. */
final class KeptEdges {
    private static final int BAD = EchoSeats.BAD, STATE = EchoSeats.STATE;
    private static final int[] FAR = {Integer.MIN_VALUE, Integer.MIN_VALUE + 1, -1000000, 1000000, Integer.MAX_VALUE - 1, Integer.MAX_VALUE};

    private KeptEdges() { }

    private static void change(EchoSeats x) {
        for (int wall = 0; wall < 4; wall++) x.pads(wall, 6 + wall);
        x.draws(0, 0, 8);
        x.draws(1, 3, 3);
        x.draws(2, 4, 5);
        x.moves(9, 7);
    }

    private static void keepsWhatCanChange() {
        EchoSeats x = Due.made("w0 0;w1 1;w2 3;w3 10;q3 4;s1 1;c5 1 2;c6 0 0;c7 8 8;");
        x.keep(1);
        change(x);
        Due.is("back(1)", x.back(1), 304);
        int[] walls = {0, 1, 3, 10};
        for (int wall = 0; wall < 4; wall++) Due.is("wall(" + wall + ")", x.wall(wall), walls[wall]);
        int[][] curtains = {{5, 1, 2}, {6, 0, 0}, {7, 8, 8}};
        for (int curtain = 0; curtain < 3; curtain++) {
            for (int what = 0; what < 3; what++) Due.is("a curtain", x.curtain(curtain, what), curtains[curtain][what]);
        }
        Due.is("x", x.count(2), 3);
        Due.is("y", x.count(3), 4);
    }

    private static void keepsNothingElse() {
        EchoSeats x = Due.made("s1 1;c5 1 2;");
        x.sees(0, 0, 10);
        x.type('s');
        x.keep(0);
        x.keep(1);
        x.sees(0, 0, 10);
        x.type('1');
        x.pads(0, 5);
        x.keep(1);
        Due.is("back(0)", x.back(0), 101);
        Due.is("what was SEEN stays", x.count(6), 2);
        Due.is("THE TEXT stays", x.count(7), 2);
        Due.is("the other image stays", x.back(1), 101);
        Due.is("as it was kept last", x.wall(0), 5);
        Due.is("THE TEXT goes on", Due.tell(x, " 1;"), 1);
        Due.is("the seat", x.count(4), 1);
    }

    private static void nothingUndoneBehindBack() {
        EchoSeats x = Due.made("c5 1 2;");
        x.pads(0, 5);
        x.keep(0);
        Due.is("keep() loses nothing", x.count(8), 1);
        x.moves(2, 2);
        x.back(0);
        Due.is("count(8)", x.count(8), 0);
        Due.is("undo()", x.undo(), STATE);
        Due.is("wall(0)", x.wall(0), 5);
        x.pads(0, 6);
        Due.is("what is done behind it can be", x.undo(), 0);
        Due.is("wall(0)", x.wall(0), 5);
        x.pads(0, 6);
        Due.is("a refused back()", x.back(1), STATE);
        Due.is("loses nothing", x.count(8), 1);
        Due.is("a wrong back()", x.back(2), BAD);
        Due.is("loses nothing", x.count(8), 1);
        x.keep(1);
        Due.is("back() to what is", x.back(1), 101);
        Due.is("loses all", x.count(8), 0);
    }

    private static void readAnew() {
        EchoSeats x = Due.made("r9 7;w0 0;w3 9;q2 3;s1 1;s2 2;c5 1 2;c6 1 2;");
        x.keep(0);
        x.pads(1, 5);
        x.draws(0, 0, 7);
        x.moves(9, 7);
        x.sees(0, 0, 10);
        x.keep(1);
        Due.is("room()", Due.tell(x, "w3 4;c1 2 3;"), 2);
        int[] counts = {10, 8, 1, 1, 0, 1, 0, 0, 0};
        for (int what = 0; what < counts.length; what++) Due.is("count(" + what + ")", x.count(what), counts[what]);
        int[] walls = {2, 2, 2, 4};
        for (int wall = 0; wall < 4; wall++) Due.is("wall(" + wall + ")", x.wall(wall), walls[wall]);
        Due.is("from", x.curtain(0, 1), 2);
        Due.is("undo()", x.undo(), STATE);
        Due.is("back(0)", x.back(0), STATE);
        Due.is("back(1)", x.back(1), STATE);
        Due.is("all places", x.unseen(0), 99);
        // What was read is read again by the same words, and gone all the same.
        x.keep(0);
        x.pads(0, 0);
        Due.is("room() once more", Due.tell(x, "w3 4;c1 2 3;"), 2);
        Due.is("back(0)", x.back(0), STATE);
        Due.is("wall(0)", x.wall(0), 2);
    }

    // ---- the promises

    private static void keep() {
        EchoSeats x = new EchoSeats();
        Due.is("keep(-1)", x.keep(-1), BAD);
        Due.is("keep(2)", x.keep(2), BAD);
        for (int far : FAR) Due.is("keep(" + far + ")", x.keep(far), BAD);
        Due.is("keep(0)", x.keep(0), 101);
        Due.is("keep(0) again", x.keep(0), 101);
        x.moves(0, 0);
        Due.is("keep(1) at 0, 0", x.keep(1), 0);
        EchoSeats wide = Due.made("r20 20;q20 20;");
        Due.is("keep(1) at 20, 20", wide.keep(1), 2020);
        Due.is("keep(0) is another one", wide.back(0), STATE);
    }

    private static void back() {
        EchoSeats x = new EchoSeats();
        Due.is("back(-1)", x.back(-1), BAD);
        Due.is("back(2)", x.back(2), BAD);
        for (int far : FAR) Due.is("back(" + far + ")", x.back(far), BAD);
        Due.is("back(0) of none", x.back(0), STATE);
        Due.is("back(1) of none", x.back(1), STATE);
        x.keep(0);
        Due.is("back(1), the other one was kept", x.back(1), STATE);
        x.moves(0, 0);
        Due.is("back(0)", x.back(0), 101);
        Due.is("back(0) again", x.back(0), 101);
        x.moves(10, 8);
        x.pads(0, 10);
        Due.is("what is done does not reach it", x.back(0), 101);
        Due.is("wall(0)", x.wall(0), 2);
        x.moves(10, 8);
        Due.is("kept over", x.keep(0), 1008);
        x.moves(0, 0);
        Due.is("back(0) to the new one", x.back(0), 1008);
    }

    private static void count() {
        EchoSeats bare = Due.made("r2 2;q0 0;");
        int[] least = {2, 2, 0, 0, 0, 0, 0, 0, 0};
        EchoSeats full = Due.made("r20 20;q20 20;s1 1;s1 1;s1 1;s1 1;c1 1 1;c1 1 1;c1 1 1;");
        for (int n = 0; n < 12; n++) full.pads(0, n % 2);
        for (int n = 0; n < 5; n++) full.sees(0, 0, 0);
        for (int n = 0; n < 101; n++) full.type(32);
        int[] most = {20, 20, 20, 20, 4, 3, 4, 100, 10};
        for (int what = 0; what < 9; what++) {
            Due.is("the least count(" + what + ")", bare.count(what), least[what]);
            Due.is("the most count(" + what + ")", full.count(what), most[what]);
        }
        Due.is("count(-1)", full.count(-1), BAD);
        Due.is("count(9)", full.count(9), BAD);
        for (int far : FAR) Due.is("count(" + far + ")", full.count(far), BAD);
    }

    /** The 512th call is still as told. */
    static void manyCalls() {
        EchoSeats x = new EchoSeats();
        int calls = 0;
        for (int n = 0; n < 5; n++, calls++) x.type("s1 1;".charAt(n));
        x.room();
        calls++;
        for (; calls < 509; calls++) x.pads(calls % 4, calls % 10);
        Due.is("the 510th call", x.pads(0, 10), 508 % 10);
        Due.is("the 511th call", x.undo(), 9);
        Due.is("the 512th call", x.wall(0), 508 % 10);
    }

    static void run() {
        Edge.of("IMAGES of it 0, 1 keep what WALLS SWALLOW, CURTAINS, THE SOURCE;", KeptEdges::keepsWhatCanChange);
        Edge.of("nothing else", KeptEdges::keepsNothingElse);
        Edge.of("(nothing can be UNDONE behind back()).", KeptEdges::nothingUndoneBehindBack);
        Edge.of("(Read anew: as told, else as at first; nothing can be UNDONE, nothing SEEN, what was kept is gone.)", KeptEdges::readAnew);
        Edge.of("One is kept: 100 times THE SOURCE's x, and its y. BAD.", KeptEdges::keep);
        Edge.of("All of that becomes as it has it: 100 times THE SOURCE's x, and its y. BAD; STATE: none was kept.", KeptEdges::back);
        Edge.of("0 LENGTH, 1 BREADTH, 2 THE SOURCE's x, 3 its y, 4 SEATS, 5 CURTAINS, 6 SEEN, 7 letters of THE TEXT, 8 how many may be UNDONE. BAD.",
                KeptEdges::count);
    }
}

/** Edges of what is done: pads, draws, moves, undo. */
final class DoneEdges {
    private static final int BAD = EchoSeats.BAD, STATE = EchoSeats.STATE;
    private static final int[] FAR = {Integer.MIN_VALUE, Integer.MIN_VALUE + 1, -1000000, Integer.MAX_VALUE - 1, Integer.MAX_VALUE};

    private DoneEdges() { }

    private static void wallSwallowsSomethingElse() {
        for (int wall = 0; wall < 4; wall++) {
            EchoSeats x = new EchoSeats();
            Due.is("pads(" + wall + ", 2), as it does", x.pads(wall, 2), STATE);
            Due.is("nothing can be UNDONE", x.count(8), 0);
            Due.is("one less", x.pads(wall, 1), 2);
            Due.is("what it did before", x.pads(wall, 2), 1);
            Due.is("one more", x.pads(wall, 3), 2);
            for (int other = 0; other < 4; other++) Due.is("wall(" + other + ")", x.wall(other), other == wall ? 3 : 2);
        }
    }

    private static void otherEnds() {
        EchoSeats x = Due.made("c5 2 6;c5 2 6;");
        Due.is("both as they are", x.draws(0, 2, 6), STATE);
        Due.is("the first end alone", x.draws(0, 3, 6), 206);
        Due.is("the other end alone", x.draws(0, 3, 5), 306);
        Due.is("both", x.draws(0, 2, 6), 305);
        Due.is("the ends changed for one another are none", x.draws(0, 6, 2), BAD);
        Due.is("its x stays", x.curtain(0, 0), 5);
        Due.is("the other curtain's from stays", x.curtain(1, 1), 2);
        Due.is("the other curtain's to stays", x.curtain(1, 2), 6);
        Due.is("as the other curtain is", x.draws(1, 2, 6), STATE);
    }

    private static void elsewhere() {
        EchoSeats x = Due.made("q3 4;");
        Due.is("where it is", x.moves(3, 4), STATE);
        Due.is("x alone", x.moves(4, 4), 304);
        Due.is("y alone", x.moves(4, 3), 404);
        Due.is("both", x.moves(3, 4), 403);
        Due.is("onto a wall", x.moves(0, 4), 304);
        EchoSeats y = Due.made("s1 1;");
        Due.is("off a seat", y.moves(2, 1), 101);
        Due.is("onto a seat", y.moves(1, 1), 201);
    }

    /** The walls' first numbers, one more each time: n pads done are told by what wall 0 swallows. */
    private static EchoSeats padded(int times) {
        EchoSeats x = Due.made("w0 0;");
        for (int n = 1; n <= times; n++) x.pads(0, n % 11);
        return x;
    }

    private static void tenAreKnown() {
        for (int times = 0; times <= 23; times++) {
            EchoSeats x = padded(times);
            int known = Math.min(10, times);
            Due.is(times + " done: count(8)", x.count(8), known);
            for (int left = known - 1; left >= 0; left--) {
                Due.is(times + " done: undo()", x.undo(), left);
                Due.is(times + " done: wall(0)", x.wall(0), (times - known + left) % 11);
            }
            Due.is(times + " done: undo() of none", x.undo(), STATE);
            Due.is(times + " done: wall(0) stays", x.wall(0), (times - known) % 11);
            Due.is(times + " done: count(8)", x.count(8), 0);
        }
    }

    private static void tenAreKnownOfEachKind() {
        EchoSeats drawn = Due.made("c5 0 0;");
        EchoSeats moved = Due.made("q0 0;");
        for (int n = 1; n <= 8; n++) drawn.draws(0, n, 8);
        for (int n = 7; n >= 5; n--) drawn.draws(0, n, 8);
        for (int n = 1; n <= 8; n++) moved.moves(n, n);
        for (int n = 7; n >= 5; n--) moved.moves(n, n + 1);
        for (int n = 0; n < 10; n++) {
            Due.is("undo() of draws", drawn.undo(), 9 - n);
            Due.is("undo() of moves", moved.undo(), 9 - n);
        }
        Due.is("draws: the eleventh is lost", drawn.undo(), STATE);
        Due.is("moves: the eleventh is lost", moved.undo(), STATE);
        Due.is("from", drawn.curtain(0, 1), 1);
        Due.is("to", drawn.curtain(0, 2), 8);
        Due.is("x", moved.count(2), 1);
        Due.is("y", moved.count(3), 1);
    }

    /** Eleven of unlike kinds: the first is lost, and the others are undone as what they were. */
    private static void tenAreKnownOfUnlikeKinds() {
        EchoSeats x = Due.made("q0 0;c5 1 2;c6 3 4;");
        x.pads(3, 9);
        for (int n = 1; n <= 3; n++) {
            x.moves(n, n + 1);
            x.draws(n % 2, n, n + 4);
            x.pads(n, n + 3);
        }
        x.draws(0, 0, 0);
        Due.is("count(8)", x.count(8), 10);
        for (int left = 9; left >= 0; left--) {
            Due.is("undo()", x.undo(), left);
            if (left == 9) ends("curtain 0, drawn before", x, 0, 2, 6);
            if (left == 8) Due.is("wall 3, padded before", x.wall(3), 9);
            if (left == 7) ends("curtain 1, drawn before", x, 1, 1, 5);
            if (left == 6) Due.is("the source, moved before", 100 * x.count(2) + x.count(3), 203);
            if (left == 5) Due.is("wall 2, padded before", x.wall(2), 2);
            if (left == 4) ends("curtain 0, as told", x, 0, 1, 2);
            if (left == 3) Due.is("the source, moved before", 100 * x.count(2) + x.count(3), 102);
            if (left == 2) Due.is("wall 1, as told", x.wall(1), 2);
            if (left == 1) ends("curtain 1, as told", x, 1, 3, 4);
            if (left == 0) Due.is("the source, as told", 100 * x.count(2) + x.count(3), 0);
        }
        Due.is("the eleventh is lost", x.undo(), STATE);
        Due.is("wall 3", x.wall(3), 9);
    }

    private static void ends(String what, EchoSeats x, int curtain, int from, int to) {
        Due.is(what + ": from", x.curtain(curtain, 1), from);
        Due.is(what + ": to", x.curtain(curtain, 2), to);
    }

    private static void refusedOnesAreNotKnown() {
        EchoSeats x = Due.made("c5 1 2;");
        x.pads(0, 9);
        x.pads(0, 9);
        x.pads(0, 11);
        x.pads(4, 1);
        x.draws(0, 1, 2);
        x.draws(0, 2, 1);
        x.draws(1, 0, 0);
        x.moves(1, 1);
        x.moves(11, 1);
        Due.is("count(8)", x.count(8), 1);
        Due.is("undo()", x.undo(), 0);
        Due.is("wall(0)", x.wall(0), 2);
        EchoSeats full = padded(10);
        full.pads(0, 10);
        full.moves(1, 1);
        full.draws(0, 0, 0);
        for (int left = 9; left >= 0; left--) Due.is("refused ones push none out: undo()", full.undo(), left);
        Due.is("wall(0), all undone", full.wall(0), 0);
    }

    private static void otherCallsAreNotKnown() {
        EchoSeats x = Due.made("s1 1;c5 1 2;");
        x.keep(0);
        x.sees(0, 0, 5);
        x.forget();
        x.type('s');
        x.clear();
        x.odds(5, 0, 5, 0);
        Due.is("count(8)", x.count(8), 0);
        x.pads(0, 5);
        x.undo();
        Due.is("an undo() can't be UNDONE", x.undo(), STATE);
        Due.is("wall(0)", x.wall(0), 2);
    }

    private static void doneAgainBehindUndo() {
        EchoSeats x = padded(12);
        for (int n = 0; n < 4; n++) x.undo();
        Due.is("wall(0) behind four", x.wall(0), 8);
        x.moves(5, 5);
        x.pads(0, 0);
        Due.is("count(8)", x.count(8), 8);
        Due.is("undo() of pads", x.undo(), 7);
        Due.is("wall(0)", x.wall(0), 8);
        Due.is("undo() of moves", x.undo(), 6);
        Due.is("x", x.count(2), 1);
        Due.is("undo() of the old ones", x.undo(), 5);
        Due.is("wall(0)", x.wall(0), 7);
    }

    // ---- the promises

    private static void pads() {
        EchoSeats x = new EchoSeats();
        Due.is("pads(-1, 5)", x.pads(-1, 5), BAD);
        Due.is("pads(4, 5)", x.pads(4, 5), BAD);
        Due.is("pads(0, -1)", x.pads(0, -1), BAD);
        Due.is("pads(0, 11)", x.pads(0, 11), BAD);
        for (int far : FAR) {
            Due.is("pads(" + far + ", 5)", x.pads(far, 5), BAD);
            Due.is("pads(0, " + far + ")", x.pads(0, far), BAD);
        }
        Due.is("pads(0, 0)", x.pads(0, 0), 2);
        Due.is("pads(0, 0) again", x.pads(0, 0), STATE);
        Due.is("pads(0, 10)", x.pads(0, 10), 0);
        Due.is("pads(0, 10) again", x.pads(0, 10), STATE);
        Due.is("pads(3, 10)", x.pads(3, 10), 2);
        Due.is("no such wall, though it would do that", x.pads(4, 2), BAD);
    }

    private static void draws() {
        Due.is("no curtain", new EchoSeats().draws(0, 0, 0), BAD);
        EchoSeats x = Due.made("r20 3;c19 0 3;c1 3 3;");
        Due.is("draws(-1, 0, 0)", x.draws(-1, 0, 0), BAD);
        Due.is("draws(2, 0, 0)", x.draws(2, 0, 0), BAD);
        Due.is("draws(0, -1, 3)", x.draws(0, -1, 3), BAD);
        Due.is("draws(0, 0, 4)", x.draws(0, 0, 4), BAD);
        Due.is("draws(0, 4, 4)", x.draws(0, 4, 4), BAD);
        Due.is("draws(0, 2, 1)", x.draws(0, 2, 1), BAD);
        Due.is("draws(0, 0, -1)", x.draws(0, 0, -1), BAD);
        for (int far : FAR) {
            Due.is("draws(" + far + ", 0, 0)", x.draws(far, 0, 0), BAD);
            Due.is("draws(0, " + far + ", 1)", x.draws(0, far, 1), BAD);
            Due.is("draws(0, 1, " + far + ")", x.draws(0, 1, far), BAD);
            Due.is("draws(0, " + far + ", " + far + ")", x.draws(0, far, far), BAD);
        }
        Due.is("draws(0, 0, 3)", x.draws(0, 0, 3), STATE);
        Due.is("draws(0, 0, 0)", x.draws(0, 0, 0), 3);
        Due.is("draws(0, 3, 3)", x.draws(0, 3, 3), 0);
        Due.is("draws(1, 0, 3)", x.draws(1, 0, 3), 303);
        EchoSeats high = Due.made("r3 20;c2 20 20;");
        Due.is("draws(0, 0, 20)", high.draws(0, 0, 20), 2020);
        Due.is("draws(0, 0, 21)", high.draws(0, 0, 21), BAD);
        Due.is("draws(0, 20, 20)", high.draws(0, 20, 20), 20);
        Due.is("draws(0, 21, 21)", high.draws(0, 21, 21), BAD);
    }

    private static void moves() {
        EchoSeats x = Due.made("r3 20;q0 0;");
        Due.is("moves(-1, 0)", x.moves(-1, 0), BAD);
        Due.is("moves(0, -1)", x.moves(0, -1), BAD);
        Due.is("moves(4, 0)", x.moves(4, 0), BAD);
        Due.is("moves(0, 21)", x.moves(0, 21), BAD);
        for (int far : FAR) {
            Due.is("moves(" + far + ", 0)", x.moves(far, 0), BAD);
            Due.is("moves(0, " + far + ")", x.moves(0, far), BAD);
        }
        Due.is("moves(0, 0)", x.moves(0, 0), STATE);
        Due.is("moves(3, 20)", x.moves(3, 20), 0);
        Due.is("moves(3, 20) again", x.moves(3, 20), STATE);
        Due.is("moves(0, 20)", x.moves(0, 20), 320);
        Due.is("moves(3, 0)", x.moves(3, 0), 20);
        EchoSeats y = Due.made("r20 3;");
        Due.is("moves(20, 3)", y.moves(20, 3), 101);
        Due.is("moves(3, 20)", y.moves(3, 20), BAD);
        Due.is("moves(1, 1)", y.moves(1, 1), 2003);
    }

    private static void undo() {
        EchoSeats x = new EchoSeats();
        Due.is("nothing to undo", x.undo(), STATE);
        x.pads(0, 5);
        x.moves(0, 0);
        Due.is("one more", x.undo(), 1);
        Due.is("none more", x.undo(), 0);
        Due.is("nothing left", x.undo(), STATE);
        x.pads(0, 5);
        x.room();
        Due.is("nothing behind room()", x.undo(), STATE);
        x.pads(0, 5);
        x.keep(0);
        x.back(0);
        Due.is("nothing behind back()", x.undo(), STATE);
        Due.is("wall(0)", x.wall(0), 5);
    }

    static void run() {
        Edge.of("PADDED: a WALL SWALLOWS something else.", DoneEdges::wallSwallowsSomethingElse);
        Edge.of("DRAWN: a CURTAIN has other ends.", DoneEdges::otherEnds);
        Edge.of("MOVED: THE SOURCE is elsewhere.", DoneEdges::elsewhere);
        Edge.of("(10 are known, older ones are lost)", DoneEdges::tenAreKnown);
        Edge.of("UNDONE: the latest pads(), draws(), moves() that was not refused (10 are known, older ones are lost).", () -> {
            tenAreKnownOfEachKind();
            tenAreKnownOfUnlikeKinds();
            refusedOnesAreNotKnown();
            otherCallsAreNotKnown();
            doneAgainBehindUndo();
        });
        Edge.of("PADDED: what it swallowed. BAD; STATE: it does that.", DoneEdges::pads);
        Edge.of("DRAWN: 100 times its from, and its to, as they were. BAD; STATE: they are that.", DoneEdges::draws);
        Edge.of("MOVED: 100 times its x, and its y, as they were. BAD; STATE: it is there.", DoneEdges::moves);
        Edge.of("UNDONE: how many more may be. STATE: none.", DoneEdges::undo);
    }
}

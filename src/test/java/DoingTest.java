/** Promises 8 to 11 and 24 to 26: pads, draws, moves, undo, keep, back, count. */
public final class DoingTest {
    private static void pads() {
        EchoSeats x = new EchoSeats();
        Due.is("pads(1, 5)", x.pads(1, 5), 2);
        Due.is("wall(1)", x.wall(1), 5);
        Due.is("wall(0)", x.wall(0), 2);
        Due.is("pads(1, 5) again", x.pads(1, 5), EchoSeats.STATE);
        Due.is("pads(1, 0)", x.pads(1, 0), 5);
        Due.is("pads(1, 10)", x.pads(1, 10), 0);
        Due.is("pads(-1, 0)", x.pads(-1, 0), EchoSeats.BAD);
        Due.is("pads(4, 0)", x.pads(4, 0), EchoSeats.BAD);
        Due.is("pads(0, -1)", x.pads(0, -1), EchoSeats.BAD);
        Due.is("pads(0, 11)", x.pads(0, 11), EchoSeats.BAD);
        Due.is("refused ones can't be UNDONE", x.count(8), 3);
    }

    private static void draws() {
        EchoSeats x = Due.made("c5 1 2;c6 3 4;");
        Due.is("draws(0, 0, 8)", x.draws(0, 0, 8), 102);
        Due.is("curtain(0, 0)", x.curtain(0, 0), 5);
        Due.is("curtain(0, 1)", x.curtain(0, 1), 0);
        Due.is("curtain(0, 2)", x.curtain(0, 2), 8);
        Due.is("draws(0, 0, 8) again", x.draws(0, 0, 8), EchoSeats.STATE);
        Due.is("draws(0, 0, 7)", x.draws(0, 0, 7), 8);
        Due.is("draws(0, 7, 7)", x.draws(0, 7, 7), 7);
        Due.is("draws(1, 4, 4)", x.draws(1, 4, 4), 304);
        Due.is("draws(0, 5, 4)", x.draws(0, 5, 4), EchoSeats.BAD);
        Due.is("draws(0, -1, 4)", x.draws(0, -1, 4), EchoSeats.BAD);
        Due.is("draws(0, 0, 9)", x.draws(0, 0, 9), EchoSeats.BAD);
        Due.is("draws(0, 9, 9)", x.draws(0, 9, 9), EchoSeats.BAD);
        Due.is("draws(2, 0, 0)", x.draws(2, 0, 0), EchoSeats.BAD);
        Due.is("draws(-1, 0, 0)", x.draws(-1, 0, 0), EchoSeats.BAD);
        Due.is("count(8)", x.count(8), 4);
    }

    private static void moves() {
        EchoSeats x = new EchoSeats();
        Due.is("moves(10, 8)", x.moves(10, 8), 101);
        Due.is("moves(0, 0)", x.moves(0, 0), 1008);
        Due.is("moves(0, 0) again", x.moves(0, 0), EchoSeats.STATE);
        Due.is("moves(0, 1)", x.moves(0, 1), 0);
        Due.is("moves(1, 1)", x.moves(1, 1), 1);
        Due.is("moves(11, 0)", x.moves(11, 0), EchoSeats.BAD);
        Due.is("moves(0, 9)", x.moves(0, 9), EchoSeats.BAD);
        Due.is("moves(-1, 0)", x.moves(-1, 0), EchoSeats.BAD);
        Due.is("moves(0, -1)", x.moves(0, -1), EchoSeats.BAD);
        Due.is("count(2)", x.count(2), 1);
        Due.is("count(3)", x.count(3), 1);
        Due.is("count(8)", x.count(8), 4);
    }

    private static void undoInOrder() {
        EchoSeats x = Due.made("c5 1 2;");
        x.pads(2, 9);
        x.draws(0, 3, 4);
        x.moves(7, 6);
        x.draws(0, 0, 0);
        Due.is("undo() of draws", x.undo(), 3);
        Due.is("from", x.curtain(0, 1), 3);
        Due.is("to", x.curtain(0, 2), 4);
        Due.is("undo() of moves", x.undo(), 2);
        Due.is("x", x.count(2), 1);
        Due.is("y", x.count(3), 1);
        Due.is("undo() of draws", x.undo(), 1);
        Due.is("from", x.curtain(0, 1), 1);
        Due.is("to", x.curtain(0, 2), 2);
        Due.is("the wall is still padded", x.wall(2), 9);
        Due.is("undo() of pads", x.undo(), 0);
        Due.is("wall(2)", x.wall(2), 2);
        Due.is("undo() of nothing", x.undo(), EchoSeats.STATE);
    }

    private static void tenAreKnown() {
        EchoSeats x = new EchoSeats();
        for (int n = 0; n < 13; n++) {
            x.pads(0, (n + 3) % 11);
            Due.is("count(8) behind " + (n + 1), x.count(8), Math.min(10, n + 1));
        }
        for (int left = 9; left >= 0; left--) {
            Due.is("undo()", x.undo(), left);
            Due.is("wall(0)", x.wall(0), (left + 3 + 2) % 11);
        }
        Due.is("older ones are lost", x.undo(), EchoSeats.STATE);
        Due.is("wall(0)", x.wall(0), 5);
    }

    private static void olderOnesOfEveryKindAreLost() {
        EchoSeats x = Due.made("c5 1 2;c6 1 2;");
        x.pads(3, 7);
        x.draws(1, 4, 5);
        x.moves(2, 3);
        for (int n = 0; n < 3; n++) {
            x.pads(n, 9);
            x.draws(n % 2, n, 8);
            x.moves(9, n);
        }
        for (int left = 9; left >= 0; left--) {
            Due.is("undo()", x.undo(), left);
        }
        Due.is("the first is lost", x.wall(3), 7);
        Due.is("the second is lost", x.curtain(1, 1), 4);
        Due.is("the second is lost", x.curtain(1, 2), 5);
        Due.is("the third is undone: x", x.count(2), 1);
        Due.is("the third is undone: y", x.count(3), 1);
        Due.is("the other curtain: from", x.curtain(0, 1), 1);
        Due.is("the other curtain: to", x.curtain(0, 2), 2);
        Due.is("wall(0)", x.wall(0), 2);
    }

    private static void keepAndBack() {
        EchoSeats x = Due.made("q3 4;s1 1;c5 1 2;");
        Due.is("back(0)", x.back(0), EchoSeats.STATE);
        Due.is("keep(0)", x.keep(0), 304);
        x.pads(1, 8);
        x.draws(0, 0, 8);
        x.moves(9, 7);
        x.sees(0, 0, 40);
        x.type('r');
        Due.is("keep() takes nothing from what can be UNDONE", x.count(8), 3);
        Due.is("keep(1)", x.keep(1), 907);
        Due.is("back(0)", x.back(0), 304);
        Due.is("wall(1)", x.wall(1), 2);
        Due.is("from", x.curtain(0, 1), 1);
        Due.is("to", x.curtain(0, 2), 2);
        Due.is("x", x.count(2), 3);
        Due.is("y", x.count(3), 4);
        Due.is("SEATS stay", x.count(4), 1);
        Due.is("what was SEEN stays", x.count(6), 1);
        Due.is("THE TEXT stays", x.count(7), 1);
        Due.is("nothing can be UNDONE", x.count(8), 0);
        Due.is("undo()", x.undo(), EchoSeats.STATE);
        x.pads(1, 4);
        x.moves(0, 0);
        Due.is("what is kept does not follow", x.back(0), 304);
        Due.is("wall(1)", x.wall(1), 2);
        Due.is("back(1)", x.back(1), 907);
        Due.is("wall(1)", x.wall(1), 8);
        Due.is("to", x.curtain(0, 2), 8);
        Due.is("keep(0) over the old one", x.keep(0), 907);
        x.moves(1, 1);
        Due.is("back(0)", x.back(0), 907);
    }

    private static void wrongNumbers() {
        EchoSeats x = new EchoSeats();
        Due.is("keep(-1)", x.keep(-1), EchoSeats.BAD);
        Due.is("keep(2)", x.keep(2), EchoSeats.BAD);
        Due.is("back(-1)", x.back(-1), EchoSeats.BAD);
        Due.is("back(2)", x.back(2), EchoSeats.BAD);
        Due.is("count(-1)", x.count(-1), EchoSeats.BAD);
        Due.is("count(9)", x.count(9), EchoSeats.BAD);
    }

    public static void main(String[] args) {
        pads();
        draws();
        moves();
        undoInOrder();
        tenAreKnown();
        olderOnesOfEveryKindAreLost();
        keepAndBack();
        wrongNumbers();
        Due.end();
    }
}

/** Promises 20 to 23: sees, forget, unseen, listen. */
public final class FindingTest {
    private static void sees() {
        EchoSeats x = new EchoSeats();
        Due.is("sees(0, 0, 0)", x.sees(0, 0, 0), 1);
        Due.is("sees(3, 0, 9999)", x.sees(3, 0, 9999), 2);
        Due.is("sees(2, 2, 0)", x.sees(2, 2, 0), EchoSeats.BAD);
        Due.is("sees(-4, 0, 0)", x.sees(-4, 0, 0), EchoSeats.BAD);
        Due.is("sees(0, 0, -1)", x.sees(0, 0, -1), EchoSeats.BAD);
        Due.is("sees(0, 0, 10000)", x.sees(0, 0, 10000), EchoSeats.BAD);
        Due.is("count(6)", x.count(6), 2);
        Due.is("sees(0, 0, 0) again", x.sees(0, 0, 0), 3);
        Due.is("sees(-1, -2, 7)", x.sees(-1, -2, 7), 4);
        Due.is("a fifth", x.sees(0, 0, 0), EchoSeats.FULL);
        Due.is("BAD goes ahead of FULL", x.sees(2, 2, 0), EchoSeats.BAD);
        Due.is("forget()", x.forget(), 4);
        Due.is("count(6)", x.count(6), 0);
        Due.is("forget() again", x.forget(), 0);
        Due.is("sees(0, 0, 1)", x.sees(0, 0, 1), 1);
    }

    private static void unseen() {
        EchoSeats x = Due.made("r2 2;q0 0;");
        Due.is("all places", x.unseen(0), 9);
        Due.is("the first", x.unseen(1), 0);
        x.sees(0, 0, 10);
        Due.is("at 0, 1 and 1, 0", x.unseen(0), 2);
        Due.is("the first", x.unseen(1), 1);
        Due.is("of several the first tells them", x.listen(), 3);
        x.sees(-3, 0, 41);
        Due.is("at 0, 1", x.unseen(0), 1);
        Due.is("the first", x.unseen(1), 1);
        Due.is("one place is enough", x.listen(), EchoSeats.NONE);
        x.sees(0, 0, 11);
        Due.is("nowhere", x.unseen(0), 0);
        Due.is("no first", x.unseen(1), EchoSeats.NONE);
        Due.is("nothing to listen to", x.listen(), EchoSeats.NONE);
        Due.is("forget()", x.forget(), 3);
        Due.is("all places", x.unseen(0), 9);
        Due.is("unseen(2)", x.unseen(2), EchoSeats.BAD);
        Due.is("unseen(-1)", x.unseen(-1), EchoSeats.BAD);
    }

    /** TIME is cut: WAYS squared of 100 and of 101 both take 100. */
    private static void firstIsByX() {
        EchoSeats x = Due.made("r20 20;q10 10;");
        Due.is("all places", x.unseen(0), 441);
        x.sees(0, 0, 100);
        Due.is("12 of 100, 8 of 101", x.unseen(0), 20);
        Due.is("the first is 0, 9", x.unseen(1), 9);
        x.sees(1, 0, 223);
        Due.is("10, 0 and 10, 20 are 500 from 30, 10", x.unseen(0), 2);
        Due.is("the first", x.unseen(1), 1000);
    }

    /** As things are NOW: THE SOURCE moved, other places fit; curtains and walls do not matter. */
    private static void now() {
        EchoSeats x = Due.made("q5 4;c6 0 8;");
        x.sees(0, 0, 50);
        Due.is("10 of 25 from 5, 4, and 4 of 26", x.unseen(0), 14);
        x.pads(0, 10);
        x.draws(0, 0, 0);
        Due.is("walls and curtains do not matter", x.unseen(0), 14);
        x.moves(0, 0);
        Due.is("4 of 25 from 0, 0, and 2 of 26", x.unseen(0), 6);
        Due.is("the first", x.unseen(1), 5);
        x.undo();
        Due.is("undone", x.unseen(0), 14);
    }

    private static void listen() {
        Due.is("in the room as at first", new EchoSeats().listen(), 402);
        EchoSeats x = Due.made("r2 2;q1 1;");
        x.sees(0, 0, 10);
        // (0, 1), (1, 0), (1, 2), (2, 1): (-3, 0) at -5, 1 tells 50, 60, 70; (-2, -1) at -3, -1 tells
        // 36, 41, 50, 53
        Due.is("four places", x.unseen(0), 4);
        Due.is("the one that tells all four", x.listen(), 102);
    }

    public static void main(String[] args) {
        sees();
        unseen();
        firstIsByX();
        now();
        listen();
        Due.end();
    }
}

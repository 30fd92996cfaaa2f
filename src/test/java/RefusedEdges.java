import java.util.LinkedHashMap;
import java.util.Map;
import java.util.function.Consumer;
import java.util.function.ToIntFunction;

/** Every call that is refused, in a new, a told and a full object, and every call that only reads: nothing changes. */
final class RefusedEdges {
    private static final int BAD = EchoSeats.BAD, STATE = EchoSeats.STATE, FULL = EchoSeats.FULL, NO = EchoSeats.NO;
    private static final String FULL_TEXT = "r9 7;w0 1;w3 4;q2 3;s1 1;s2 2;s3 3;s4 4;c5 1 2;c6 0 7;c7 3 3;";
    private static final String NEXT_TEXT = "r5 6;w1 9;q4 1;s5 6;s0 0;c2 2 4;";

    private RefusedEdges() { }

    private static void nothing(EchoSeats x) { }

    private static void told(EchoSeats x) {
        Due.tell(x, "s1 2;c5 1 2;");
        x.pads(1, 7);
        x.draws(0, 3, 4);
        x.moves(5, 5);
        x.keep(0);
        x.sees(0, 0, 22);
        Due.types(x, "s7 7;");
    }

    /** All that may be held is held: letters, seats, curtains, what was SEEN, what can be UNDONE, what is kept. */
    private static void full(EchoSeats x) {
        Due.tell(x, FULL_TEXT);
        x.keep(0);
        for (int n = 0; n < 4; n++) {
            x.pads(n, 5 + n);
            x.draws(n % 3, n, 6);
            x.moves(n, n + 1);
        }
        x.keep(1);
        x.pads(2, 0);
        x.sees(0, 0, 22);
        x.sees(0, 0, 22);
        x.sees(0, 0, 22);
        x.sees(0, 0, 22);
        Due.types(x, NEXT_TEXT + " ".repeat(100 - NEXT_TEXT.length()));
    }

    private static void wrong(String when, Consumer<EchoSeats> past, boolean hasSeat) {
        Map<String, ToIntFunction<EchoSeats>> calls = new LinkedHashMap<>();
        calls.put("type(-1)", x -> x.type(-1));
        calls.put("type(256)", x -> x.type(256));
        calls.put("wall(4)", x -> x.wall(4));
        calls.put("seat(4, 0)", x -> x.seat(4, 0));
        calls.put("curtain(3, 0)", x -> x.curtain(3, 0));
        calls.put("pads(4, 3)", x -> x.pads(4, 3));
        calls.put("pads(-1, 3)", x -> x.pads(-1, 3));
        calls.put("pads(0, 11)", x -> x.pads(0, 11));
        calls.put("pads(0, -1)", x -> x.pads(0, -1));
        calls.put("draws(3, 0, 0)", x -> x.draws(3, 0, 0));
        calls.put("draws(0, 3, 2)", x -> x.draws(0, 3, 2));
        calls.put("draws(0, -1, 2)", x -> x.draws(0, -1, 2));
        calls.put("draws(0, 0, 9)", x -> x.draws(0, 0, 9));
        calls.put("moves(11, 0)", x -> x.moves(11, 0));
        calls.put("moves(0, 9)", x -> x.moves(0, 9));
        calls.put("moves(-1, 0)", x -> x.moves(-1, 0));
        calls.put("path(4, 0, 0, 0)", x -> x.path(4, 0, 0, 0));
        calls.put("heard(0, -1, 0)", x -> x.heard(0, -1, 0));
        calls.put("sound(4, 0)", x -> x.sound(4, 0));
        calls.put("early(0, 1000, 0)", x -> x.early(0, 1000, 0));
        calls.put("fade(0, 10)", x -> x.fade(0, 10));
        calls.put("best(1000)", x -> x.best(1000));
        calls.put("odds(11, 0, 0, 0)", x -> x.odds(11, 0, 0, 0));
        calls.put("sees(2, 2, 0)", x -> x.sees(2, 2, 0));
        calls.put("sees(0, 0, -1)", x -> x.sees(0, 0, -1));
        calls.put("sees(0, 0, 10000)", x -> x.sees(0, 0, 10000));
        calls.put("unseen(2)", x -> x.unseen(2));
        calls.put("keep(2)", x -> x.keep(2));
        calls.put("keep(-1)", x -> x.keep(-1));
        calls.put("back(2)", x -> x.back(2));
        calls.put("back(-1)", x -> x.back(-1));
        calls.put("count(9)", x -> x.count(9));
        if (!hasSeat) {
            calls.put("path(0, 0, 0, 0)", x -> x.path(0, 0, 0, 0));
            calls.put("odds(5, 0, 5, 0)", x -> x.odds(5, 0, 5, 0));
            calls.put("draws(0, 0, 0)", x -> x.draws(0, 0, 0));
        }
        calls.forEach((name, call) -> Twins.unchanged(when + ": " + name, past, call, BAD));
        Twins.unchanged(when + ": mirror(4, 0, 0)", past, x -> x.mirror(4, 0, 0), NO);
    }

    private static void badChangesNothing() {
        wrong("new", RefusedEdges::nothing, false);
        wrong("told", RefusedEdges::told, true);
        wrong("full", RefusedEdges::full, true);
    }

    private static void stateChangesNothing() {
        Twins.unchanged("new: undo()", RefusedEdges::nothing, x -> x.undo(), STATE);
        Twins.unchanged("new: back(0)", RefusedEdges::nothing, x -> x.back(0), STATE);
        Twins.unchanged("new: back(1)", RefusedEdges::nothing, x -> x.back(1), STATE);
        Twins.unchanged("new: pads(0, 2)", RefusedEdges::nothing, x -> x.pads(0, 2), STATE);
        Twins.unchanged("new: moves(1, 1)", RefusedEdges::nothing, x -> x.moves(1, 1), STATE);
        Twins.unchanged("told: back(1)", RefusedEdges::told, x -> x.back(1), STATE);
        Twins.unchanged("told: pads(1, 7)", RefusedEdges::told, x -> x.pads(1, 7), STATE);
        Twins.unchanged("told: draws(0, 3, 4)", RefusedEdges::told, x -> x.draws(0, 3, 4), STATE);
        Twins.unchanged("told: moves(5, 5)", RefusedEdges::told, x -> x.moves(5, 5), STATE);
        Twins.unchanged("full: pads(2, 0)", RefusedEdges::full, x -> x.pads(2, 0), STATE);
        Twins.unchanged("full: draws(0, 3, 6)", RefusedEdges::full, x -> x.draws(0, 3, 6), STATE);
        Twins.unchanged("full: moves(3, 4)", RefusedEdges::full, x -> x.moves(3, 4), STATE);
    }

    private static void fullChangesNothing() {
        Twins.unchanged("full: type(32)", RefusedEdges::full, x -> x.type(32), FULL);
        Twins.unchanged("full: type('x')", RefusedEdges::full, x -> x.type('x'), FULL);
        Twins.unchanged("full: sees(0, 0, 50)", RefusedEdges::full, x -> x.sees(0, 0, 50), FULL);
    }

    private static void badComesFirst() {
        EchoSeats x = new EchoSeats();
        full(x);
        Due.is("type(256): BAD ahead of FULL", x.type(256), BAD);
        Due.is("sees(0, 4, 0): BAD ahead of FULL", x.sees(0, 4, 0), BAD);
        Due.is("sees(0, 0, 10000): BAD ahead of FULL", x.sees(0, 0, 10000), BAD);
        EchoSeats y = new EchoSeats();
        Due.is("back(2): BAD ahead of STATE", y.back(2), BAD);
        Due.is("back(-1): BAD ahead of STATE", y.back(-1), BAD);
        Due.is("pads(4, 2): BAD ahead of STATE", y.pads(4, 2), BAD);
        Due.is("draws(0, 0, 0): BAD ahead of STATE", y.draws(0, 0, 0), BAD);
    }

    private static void readingChangesNothing() {
        for (int seat = 0; seat < 4; seat++) {
            int at = seat;
            same("seat", x -> x.seat(at, 1));
            same("path", x -> x.path(at, 1, -2, 3));
            same("heard", x -> x.heard(at, 7, 2));
            same("sound", x -> x.sound(at, 1));
            same("early", x -> x.early(at, 100, 0));
            same("fade", x -> x.fade(at, 2));
            same("odds", x -> x.odds(4, at, 5000, 0));
        }
        same("wall", x -> x.wall(1));
        same("curtain", x -> x.curtain(1, 2));
        same("mirror", x -> x.mirror(-2, 1, 0));
        same("best", x -> x.best(50));
        same("unseen", x -> x.unseen(0));
        same("listen", x -> x.listen());
        same("count", x -> x.count(8));
    }

    /** Asked of one, the answer is the other's, and stays so when it is asked again. */
    private static void same(String call, ToIntFunction<EchoSeats> asked) {
        EchoSeats other = new EchoSeats();
        full(other);
        int due = asked.applyAsInt(other);
        Twins.unchanged(call, RefusedEdges::full, asked, due);
        Due.is(call + " again", asked.applyAsInt(other), due);
    }

    /** What was done is heard as if it had been told so. */
    private static void asThingsAreNow() {
        EchoSeats done = Due.made("r9 7;w0 1;q2 3;s4 5;s8 0;c3 1 2;c6 2 2;");
        done.keep(0);
        done.pads(1, 6);
        done.draws(0, 0, 4);
        done.moves(8, 1);
        done.pads(3, 10);
        done.undo();
        heardAlike("done", done, Due.made("r9 7;w0 1;w1 6;q8 1;s4 5;s8 0;c3 0 4;c6 2 2;"));
        done.undo();
        heardAlike("undone", done, Due.made("r9 7;w0 1;w1 6;q2 3;s4 5;s8 0;c3 0 4;c6 2 2;"));
        done.back(0);
        heardAlike("back", done, Due.made("r9 7;w0 1;q2 3;s4 5;s8 0;c3 1 2;c6 2 2;"));
    }

    private static void heardAlike(String when, EchoSeats one, EchoSeats other) {
        for (int seat = 0; seat < 2; seat++) {
            for (int i = -3; i <= 3; i++) {
                for (int j = -3; j <= 3; j++) {
                    for (int what = 0; what < 4; what++) {
                        Due.is(when + ": mirror", one.mirror(i, j, what), other.mirror(i, j, what));
                        Due.is(when + ": path", one.path(seat, i, j, what), other.path(seat, i, j, what));
                    }
                }
            }
            for (int what = 0; what < 3; what++) {
                for (int k = 0; k < 26; k++) Due.is(when + ": heard", one.heard(seat, k, what), other.heard(seat, k, what));
                Due.is(when + ": sound", one.sound(seat, what), other.sound(seat, what));
            }
            for (int t = 0; t < 300; t += 10) Due.is(when + ": early", one.early(seat, t, 0), other.early(seat, t, 0));
            for (int p = 1; p < 10; p++) Due.is(when + ": fade", one.fade(seat, p), other.fade(seat, p));
            for (int by = 0; by <= 10; by++) Due.is(when + ": odds", one.odds(by, seat, 20000, 0), other.odds(by, seat, 20000, 0));
        }
        for (int t = 0; t < 300; t += 10) Due.is(when + ": best", one.best(t), other.best(t));
        one.forget();
        one.sees(1, 0, 100);
        other.sees(1, 0, 100);
        Due.is(when + ": unseen", one.unseen(0), other.unseen(0));
        Due.is(when + ": listen", one.listen(), other.listen());
    }

    static void run() {
        Edge.of("Refused, and nothing changes, the first of these:", RefusedEdges::badComesFirst);
        Edge.of("BAD (a number is not as told, or there is no such thing),", RefusedEdges::badChangesNothing);
        Edge.of("STATE (as told),", RefusedEdges::stateChangesNothing);
        Edge.of("FULL.", RefusedEdges::fullChangesNothing);
        Edge.of("(As things are NOW;", RefusedEdges::asThingsAreNow);
        Edge.of("nothing is changed.)", RefusedEdges::readingChangesNothing);
    }
}

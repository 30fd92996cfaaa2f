import java.util.function.Consumer;
import java.util.function.ToIntFunction;

/** Two objects with the same past; one is asked something more. Then all that can be read of them is compared. */
final class Twins {
    private Twins() { }

    /** The call has the answer that is due, and changes nothing. */
    static void unchanged(String call, Consumer<EchoSeats> past, ToIntFunction<EchoSeats> asked, int due) {
        EchoSeats one = new EchoSeats();
        EchoSeats other = new EchoSeats();
        past.accept(one);
        past.accept(other);
        Due.is(call, asked.applyAsInt(one), due);
        alike("behind " + call, one, other);
    }

    /** Reads both to the end: what can be UNDONE, is kept, SEEN and typed is used up. */
    static void alike(String when, EchoSeats one, EchoSeats other) {
        reads(when, one, other);
        for (int n = 0; n < 11; n++) {
            Due.is(when + ", undo() " + n, one.undo(), other.undo());
            scene(when + ", undone " + n, one, other);
        }
        for (int image = 0; image < 2; image++) {
            Due.is(when + ", back(" + image + ")", one.back(image), other.back(image));
            scene(when + ", back " + image, one, other);
        }
        Due.is(when + ", forget()", one.forget(), other.forget());
        Due.is(when + ", room()", one.room(), other.room());
        reads(when + ", read anew", one, other);
        Due.is(when + ", clear()", one.clear(), other.clear());
    }

    private static void reads(String when, EchoSeats one, EchoSeats other) {
        for (int what = 0; what < 9; what++) Due.is(when + ", count(" + what + ")", one.count(what), other.count(what));
        for (int what = 0; what < 2; what++) Due.is(when + ", unseen(" + what + ")", one.unseen(what), other.unseen(what));
        Due.is(when + ", listen()", one.listen(), other.listen());
        scene(when, one, other);
    }

    private static void scene(String when, EchoSeats one, EchoSeats other) {
        for (int what = 2; what < 4; what++) Due.is(when + ", count(" + what + ")", one.count(what), other.count(what));
        for (int wall = 0; wall < 4; wall++) Due.is(when + ", wall(" + wall + ")", one.wall(wall), other.wall(wall));
        for (int seat = 0; seat < 4; seat++) {
            for (int what = 0; what < 2; what++) Due.is(when + ", seat(" + seat + ")", one.seat(seat, what), other.seat(seat, what));
            Due.is(when + ", sound(" + seat + ")", one.sound(seat, 1), other.sound(seat, 1));
        }
        for (int curtain = 0; curtain < 3; curtain++) {
            for (int what = 0; what < 3; what++) {
                Due.is(when + ", curtain(" + curtain + ")", one.curtain(curtain, what), other.curtain(curtain, what));
            }
        }
    }
}

/** Numbers of every kind for every call, against the model, in a bare, a told and a full room. */
public final class WrongInputTest {
    private static final int[] NUMBERS = {Integer.MIN_VALUE, Integer.MIN_VALUE + 1, -1000000, -4, -3, -2, -1, 0, 1, 2, 3, 4, 5,
        8, 9, 10, 11, 20, 21, 100, 255, 256, 999, 1000, 9999, 10000, 999999, 1000000, Integer.MAX_VALUE};
    private static final int[] FEW = {Integer.MIN_VALUE, -4, -1, 0, 1, 3, 4, 10, 11, 1000000, Integer.MAX_VALUE};

    private static void one(EchoSeats x, Model m) {
        for (int a : NUMBERS) {
            String with = "(" + a + ")";
            Due.is("wall" + with, x.wall(a), m.wall(a));
            Due.is("best" + with, x.best(a), m.best(a));
            Due.is("unseen" + with, x.unseen(a), m.unseen(a));
            Due.is("keep" + with, x.keep(a), m.keep(a));
            Due.is("back" + with, x.back(a), m.back(a));
            Due.is("count" + with, x.count(a), m.count(a));
            Due.is("type" + with, x.type(a), m.type(a));
        }
    }

    private static void two(EchoSeats x, Model m) {
        for (int a : NUMBERS) {
            for (int b : NUMBERS) {
                String with = "(" + a + ", " + b + ")";
                Due.is("seat" + with, x.seat(a, b), m.seat(a, b));
                Due.is("curtain" + with, x.curtain(a, b), m.curtain(a, b));
                Due.is("pads" + with, x.pads(a, b), m.pads(a, b));
                Due.is("moves" + with, x.moves(a, b), m.moves(a, b));
                Due.is("sound" + with, x.sound(a, b), m.sound(a, b));
                Due.is("fade" + with, x.fade(a, b), m.fade(a, b));
                Due.is("undo()", x.undo(), m.undo());
            }
        }
    }

    private static void three(EchoSeats x, Model m) {
        for (int a : NUMBERS) {
            for (int b : NUMBERS) {
                for (int c : NUMBERS) {
                    String with = "(" + a + ", " + b + ", " + c + ")";
                    Due.is("draws" + with, x.draws(a, b, c), m.draws(a, b, c));
                    Due.is("mirror" + with, x.mirror(a, b, c), m.mirror(a, b, c));
                    Due.is("heard" + with, x.heard(a, b, c), m.heard(a, b, c));
                    Due.is("early" + with, x.early(a, b, c), m.early(a, b, c));
                    Due.is("sees" + with, x.sees(a, b, c), m.sees(a, b, c));
                }
            }
        }
    }

    private static void four(EchoSeats x, Model m) {
        for (int a : FEW) {
            for (int b : FEW) {
                for (int c : FEW) {
                    for (int d : FEW) {
                        String with = "(" + a + ", " + b + ", " + c + ", " + d + ")";
                        Due.is("path" + with, x.path(a, b, c, d), m.path(a, b, c, d));
                        Due.is("odds" + with, x.odds(a, b, c, d), m.odds(a, b, c, d));
                    }
                }
            }
        }
    }

    public static void main(String[] args) {
        String[] texts = {"", "r2 2;s1 1;c1 1 1;", "r20 20;w0 0;w1 3;s0 0;s20 20;s3 4;s9 9;c1 0 3;c10 2 18;c19 4 4;"};
        for (String text : texts) {
            EchoSeats x = new EchoSeats();
            Model m = new Model();
            for (int n = 0; n < text.length(); n++) {
                Due.is("type", x.type(text.charAt(n)), m.type(text.charAt(n)));
            }
            Due.is("room() of '" + text + "'", x.room(), m.room());
            one(x, m);
            two(x, m);
            three(x, m);
            four(x, m);
            Due.is("listen()", x.listen(), m.listen());
            Due.is("forget()", x.forget(), m.forget());
            Due.is("listen()", x.listen(), m.listen());
            Due.is("clear()", x.clear(), m.clear());
        }
        Due.end();
    }
}

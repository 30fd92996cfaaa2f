/** Runs of calls, made by a fixed rule, on the class and on the model, side by side. */
public final class ModelTest {
    private static final int RUNS = 700, CALLS = 200;
    private static final int[] ODD_NUMBERS = {Integer.MIN_VALUE, Integer.MAX_VALUE, -1, -4, 4, 11, 21, 100, 256, 1000, 10000};
    private static long seed = 20261118;

    private static int upTo(int high) {
        seed = seed * 6364136223846793005L + 1442695040888963407L;
        return (int) Math.floorMod(seed >>> 33, high + 1L);
    }

    private static int between(int low, int high) {
        return low + upTo(high - low);
    }

    /** Mostly as told, at times far off. */
    private static int number(int low, int high) {
        return upTo(39) == 0 ? ODD_NUMBERS[upTo(ODD_NUMBERS.length - 1)] : between(low, high);
    }

    private static String goodText() {
        StringBuilder s = new StringBuilder();
        int length = 10;
        int breadth = 8;
        if (upTo(4) > 0) {
            boolean small = upTo(2) > 0;
            length = between(2, small ? 7 : 20);
            breadth = between(2, small ? 7 : 20);
            s.append("r" + length + " " + breadth + ";");
        }
        int seats = 0;
        int curtains = 0;
        for (int n = upTo(12); n > 0; n--) {
            switch (upTo(5)) {
                case 0 -> s.append("w" + upTo(3) + " " + upTo(10) + ";");
                case 1 -> s.append("q" + upTo(length) + " " + upTo(breadth) + ";");
                case 2, 3 -> {
                    if (seats++ < 4) s.append("s" + upTo(length) + " " + upTo(breadth) + ";");
                }
                default -> {
                    int from = upTo(breadth);
                    int to = between(from, breadth);
                    if (curtains++ < 3) s.append("c" + between(1, length - 1) + " " + from + " " + to + ";");
                }
            }
        }
        return s.toString();
    }

    private static String text() {
        StringBuilder s = new StringBuilder(goodText());
        String letters = " 0123456789;rwqscx" + (char) 9 + (char) 10 + (char) 255 + (char) 0;
        for (int n = upTo(2) > 0 ? 0 : between(1, 3); n > 0; n--) {
            char letter = letters.charAt(upTo(letters.length() - 1));
            int place = upTo(s.length());
            switch (upTo(2)) {
                case 0 -> s.insert(place, letter);
                case 1 -> s.setLength(place);
                default -> {
                    if (place < s.length()) s.setCharAt(place, letter);
                }
            }
        }
        return s.toString();
    }

    private static void tell(int run, EchoSeats x, Model m) {
        String text = text();
        for (int n = 0; n < text.length(); n++) {
            int letter = text.charAt(n);
            Due.is("run " + run + " type(" + letter + ")", x.type(letter), m.type(letter));
        }
        Due.is("run " + run + " room() of '" + text + "'", x.room(), m.room());
        if (upTo(1) > 0) {
            Due.is("run " + run + " clear()", x.clear(), m.clear());
        }
    }

    private static void callSetting(int run, EchoSeats x, Model m) {
        int a = number(0, 4);
        int b = number(0, 10);
        int c = number(0, 10);
        int sx = number(0, m.count(0));
        int sy = number(0, m.count(1));
        String with = "(" + a + ", " + b + ", " + c + "; " + sx + ", " + sy + ")";
        switch (upTo(9)) {
            case 0 -> Due.is("run " + run + " pads" + with, x.pads(a, b), m.pads(a, b));
            case 1 -> Due.is("run " + run + " draws" + with, x.draws(a, b, c), m.draws(a, b, c));
            case 2 -> Due.is("run " + run + " draws'" + with, x.draws(a, sy / 2, sy), m.draws(a, sy / 2, sy));
            case 3 -> Due.is("run " + run + " moves" + with, x.moves(sx, sy), m.moves(sx, sy));
            case 4 -> Due.is("run " + run + " undo", x.undo(), m.undo());
            case 5 -> Due.is("run " + run + " wall" + with, x.wall(a), m.wall(a));
            case 6 -> Due.is("run " + run + " seat" + with, x.seat(a, c), m.seat(a, c));
            case 7 -> Due.is("run " + run + " curtain" + with, x.curtain(a, c), m.curtain(a, c));
            case 8 -> Due.is("run " + run + " keep" + with, x.keep(a), m.keep(a));
            default -> Due.is("run " + run + " back" + with, x.back(a), m.back(a));
        }
    }

    private static void callHearing(int run, EchoSeats x, Model m) {
        int seat = number(0, Math.max(0, m.count(4) - 1));
        int i = number(-3, 3);
        int j = upTo(2) == 0 ? number(-3, 3) : number(-1, 1);
        int what = number(0, 3);
        int part = number(0, 1);
        int t = number(0, upTo(1) > 0 ? 999 : 150);
        int k = number(0, 25);
        int x10 = number(0, 10);
        int sound = number(0, upTo(1) > 0 ? 999999 : 100000);
        String with = "(seat " + seat + ", i " + i + ", j " + j + ", what " + what + ", part " + part + ", t " + t
                + ", k " + k + ", x " + x10 + ", sound " + sound + ")";
        switch (upTo(8)) {
            case 0 -> Due.is("run " + run + " mirror" + with, x.mirror(i, j, what), m.mirror(i, j, what));
            case 1, 2 -> Due.is("run " + run + " path" + with, x.path(seat, i, j, what), m.path(seat, i, j, what));
            case 3 -> Due.is("run " + run + " heard" + with, x.heard(seat, k, what), m.heard(seat, k, what));
            case 4 -> Due.is("run " + run + " sound" + with, x.sound(seat, what), m.sound(seat, what));
            case 5 -> Due.is("run " + run + " early" + with, x.early(seat, t, part), m.early(seat, t, part));
            case 6 -> Due.is("run " + run + " fade" + with, x.fade(seat, x10), m.fade(seat, x10));
            case 7 -> Due.is("run " + run + " best" + with, x.best(t), m.best(t));
            default -> Due.is("run " + run + " odds" + with, x.odds(x10, seat, sound, part), m.odds(x10, seat, sound, part));
        }
    }

    private static void callFinding(int run, EchoSeats x, Model m) {
        int i = number(-3, 3);
        int j = number(-1, 1);
        int seat = upTo(3);
        int seatTime = m.path(seat, i, j, 1);
        int time = seatTime >= 0 && upTo(3) > 0 ? seatTime : number(0, 120);
        int what = number(0, 1);
        switch (upTo(5)) {
            case 0, 1 -> Due.is("run " + run + " sees(" + i + ", " + j + ", " + time + ")", x.sees(i, j, time), m.sees(i, j, time));
            case 2 -> Due.is("run " + run + " unseen(" + what + ")", x.unseen(what), m.unseen(what));
            case 3 -> Due.is("run " + run + " listen()", x.listen(), m.listen());
            case 4 -> {
                if (upTo(3) == 0) Due.is("run " + run + " forget()", x.forget(), m.forget());
            }
            default -> Due.is("run " + run + " count", x.count(what), m.count(what));
        }
    }

    private static void compareCounts(int run, EchoSeats x, Model m) {
        for (int what = -1; what <= 9; what++) {
            Due.is("run " + run + " count(" + what + ")", x.count(what), m.count(what));
        }
    }

    public static void main(String[] args) {
        for (int run = 0; run < RUNS; run++) {
            EchoSeats x = new EchoSeats();
            Model m = new Model();
            tell(run, x, m);
            for (int n = 0; n < CALLS; n++) {
                switch (upTo(10)) {
                    case 0, 1, 2 -> callSetting(run, x, m);
                    case 3, 4 -> callFinding(run, x, m);
                    case 5 -> {
                        if (upTo(9) == 0) tell(run, x, m);
                    }
                    default -> callHearing(run, x, m);
                }
            }
            compareCounts(run, x, m);
        }
        Due.end();
    }
}

/** Promises 14 to 19: heard, sound, early, fade, best, odds. */
public final class HearingTest {
    /** Only (0, 0) and (-1, 0) are stronger than 0. */
    private static final String WEST_ECHOES = "w0 0;w1 10;w2 10;w3 10;";

    private static void heardInOrder() {
        EchoSeats x = Due.made("s1 1;");
        int[][] due = {{0, 1000000, 303}, {20, 160000, 203}, {20, 160000, 302}, {28, 71111, 202},
            {140, 4060, 304}, {141, 3184, 204}};
        for (int k = 0; k < due.length; k++) {
            for (int what = 0; what < 3; what++) {
                Due.is("heard(0, " + k + ", " + what + ")", x.heard(0, k, what), due[k][what]);
            }
        }
        Due.is("the last one", x.heard(0, 24, 2), 603);
        Due.is("heard(0, 25, 0)", x.heard(0, 25, 0), EchoSeats.NONE);
        Due.is("heard(0, MAX, 0)", x.heard(0, Integer.MAX_VALUE, 0), EchoSeats.NONE);
        Due.is("heard(0, -1, 0)", x.heard(0, -1, 0), EchoSeats.BAD);
        Due.is("heard(1, 0, 0)", x.heard(1, 0, 0), EchoSeats.BAD);
        Due.is("heard(-1, 0, 0)", x.heard(-1, 0, 0), EchoSeats.BAD);
        Due.is("BAD goes ahead of NONE", x.heard(0, 25, 3), EchoSeats.BAD);
        Due.is("heard(0, 0, -1)", x.heard(0, 0, -1), EchoSeats.BAD);
    }

    private static void sound() {
        EchoSeats x = Due.made("s1 1;");
        Due.is("how many", x.sound(0, 0), 25);
        Due.is("SOUND", x.sound(0, 1), 1425639);
        Due.is("ECHO", x.sound(0, 2), 20);
        Due.is("sound(0, 3)", x.sound(0, 3), EchoSeats.BAD);
        Due.is("sound(0, -1)", x.sound(0, -1), EchoSeats.BAD);
        Due.is("sound(1, 0)", x.sound(1, 0), EchoSeats.BAD);
        EchoSeats deaf = Due.made(WEST_ECHOES + "s1 1;");
        Due.is("those of STRENGTH 0, too", deaf.sound(0, 0), 25);
        Due.is("SOUND", deaf.sound(0, 1), 1200000);
    }

    private static void nothingIsHeard() {
        EchoSeats x = Due.made("r2 2;q0 0;s2 2;c1 0 2;");
        Due.is("how many behind a curtain in a small room", x.sound(0, 0), 0);
        EchoSeats y = Due.made("r20 20;q20 20;s0 0;c1 0 20;");
        Due.is("how many", y.sound(0, 0), 0);
        Due.is("SOUND", y.sound(0, 1), 0);
        Due.is("ECHO", y.sound(0, 2), EchoSeats.NONE);
        Due.is("heard(0, 0, 0)", y.heard(0, 0, 0), EchoSeats.NONE);
        Due.is("fade(0, 5)", y.fade(0, 5), EchoSeats.NONE);
        Due.is("early(0, 999, 0)", y.early(0, 999, 0), 0);
        Due.is("early(0, 999, 1)", y.early(0, 999, 1), 1);
        Due.is("best(999)", y.best(999), 0);
        Due.is("odds of 0", y.odds(5, 0, 0, 0), 1);
        Due.is("odds of 1", y.odds(5, 0, 1, 0), 0);
    }

    private static void oneIsHeard() {
        EchoSeats x = Due.made("r4 2;q0 0;s4 0;c1 0 1;");
        Due.is("how many", x.sound(0, 0), 1);
        Due.is("it is (0, 3)", x.heard(0, 0, 2), 306);
        Due.is("its TIME", x.heard(0, 0, 0), 89);
        Due.is("SOUND", x.sound(0, 1), 512000 / 81);
        Due.is("no ECHO", x.sound(0, 2), EchoSeats.NONE);
        Due.is("heard(0, 1, 0)", x.heard(0, 1, 0), EchoSeats.NONE);
        Due.is("FADE", x.fade(0, 9), 89);
        early(x, 88, 0, 1);
        early(x, 89, 1, 1);
    }

    private static void echoIsBetween() {
        EchoSeats x = Due.made("s1 2;");
        Due.is("the first", x.heard(0, 0, 0), 10);
        Due.is("the second", x.heard(0, 1, 0), 22);
        Due.is("ECHO", x.sound(0, 2), 12);
    }

    private static void early(EchoSeats x, int t, int upper, int lower) {
        Due.is("early(0, " + t + ", 0)", x.early(0, t, 0), upper);
        Due.is("early(0, " + t + ", 1)", x.early(0, t, 1), lower);
    }

    private static void early() {
        EchoSeats x = Due.made(WEST_ECHOES + "s1 1;");
        early(x, 0, 5, 6);
        early(x, 19, 5, 6);
        early(x, 20, 1, 1);
        early(x, 999, 1, 1);
        EchoSeats y = Due.made(WEST_ECHOES + "s1 2;");
        early(y, 9, 0, 1);
        early(y, 10, 250000, 333333);
        Due.is("early(0, -1, 0)", x.early(0, -1, 0), EchoSeats.BAD);
        Due.is("early(0, 1000, 0)", x.early(0, 1000, 0), EchoSeats.BAD);
        Due.is("early(0, 0, 2)", x.early(0, 0, 2), EchoSeats.BAD);
        Due.is("early(0, 0, -1)", x.early(0, 0, -1), EchoSeats.BAD);
        Due.is("early(1, 0, 0)", x.early(1, 0, 0), EchoSeats.BAD);
    }

    private static void fade() {
        EchoSeats x = Due.made(WEST_ECHOES + "s1 1;");
        Due.is("a sixth is left, a tenth asked", x.fade(0, 1), 20);
        Due.is("a sixth is left, two tenths asked", x.fade(0, 2), 0);
        Due.is("fade(0, 9)", x.fade(0, 9), 0);
        EchoSeats y = Due.made(WEST_ECHOES + "q2 1;s3 2;");
        Due.is("a tenth is left and asked", y.fade(0, 1), 14);
        EchoSeats z = Due.made(WEST_ECHOES + "q1 1;s3 3;");
        Due.is("three tenths are left, two asked", z.fade(0, 2), 44);
        Due.is("three tenths are left and asked", z.fade(0, 3), 28);
        Due.is("fade(0, 0)", x.fade(0, 0), EchoSeats.BAD);
        Due.is("fade(0, 10)", x.fade(0, 10), EchoSeats.BAD);
        Due.is("fade(1, 1)", x.fade(1, 1), EchoSeats.BAD);
        Due.is("fade(-1, 1)", x.fade(-1, 1), EchoSeats.BAD);
    }

    /** Curtains and deaf walls leave SOUND 0, though something is heard. */
    private static void fadeOfNoSound() {
        EchoSeats x = Due.made("w0 10;w1 10;w2 10;w3 10;s9 1;c5 1 1;");
        Due.is("SOUND", x.sound(0, 1), 0);
        Due.holds("something is HEARD", x.sound(0, 0) > 0);
        Due.is("FADE is the first TIME", x.fade(0, 1), x.heard(0, 0, 0));
        early(x, 999, 0, 1);
    }

    private static void best() {
        EchoSeats x = Due.made(WEST_ECHOES + "s1 2;s1 1;s1 1;");
        Due.is("best(0)", x.best(0), 1);
        Due.is("best(10)", x.best(10), 1);
        Due.is("of several the lowest", x.best(999), 0);
        Due.is("best(-1)", x.best(-1), EchoSeats.BAD);
        Due.is("best(1000)", x.best(1000), EchoSeats.BAD);
        Due.is("no SEATS", new EchoSeats().best(0), EchoSeats.NONE);
        Due.is("BAD goes ahead of NONE", new EchoSeats().best(1000), EchoSeats.BAD);
        EchoSeats late = Due.made("s10 8;s9 8;");
        Due.is("all of them 0", late.best(0), 0);
    }

    private static void odds(EchoSeats x, int by, int sound, int upper, int lower) {
        Due.is("odds(" + by + ", 0, " + sound + ", 0)", x.odds(by, 0, sound, 0), upper);
        Due.is("odds(" + by + ", 0, " + sound + ", 1)", x.odds(by, 0, sound, 1), lower);
    }

    private static void oddsOfOneWall() {
        EchoSeats x = Due.made(WEST_ECHOES + "s1 2;");
        odds(x, 5, 666666, 1, 2);
        odds(x, 5, 666667, 0, 1);
        odds(x, 5, 500001, 1, 2);
        odds(x, 5, 500000, 1, 1);
        odds(x, 3, 600000, 7, 10);
        odds(x, 0, 600000, 1, 1);
        odds(x, 10, 600000, 0, 1);
        odds(x, 10, 500000, 1, 1);
        odds(x, 7, 0, 1, 1);
        Due.is("the walls stay", x.wall(0), 0);
        Due.is("SOUND stays", x.sound(0, 1), 666666);
    }

    private static void oddsOfTwoWalls() {
        EchoSeats x = Due.made("w0 0;w1 10;w2 0;w3 10;s1 2;");
        Due.is("SOUND", x.sound(0, 1), 838094);
        odds(x, 3, 838094, 49, 100);
        odds(x, 3, 650000, 7, 10);
        odds(x, 3, 600000, 91, 100);
        odds(x, 3, 500000, 1, 1);
        EchoSeats all = Due.made("s1 2;");
        odds(all, 1, all.sound(0, 1), 6561, 10000);
    }

    private static void wrongOdds() {
        EchoSeats x = Due.made("s1 2;");
        Due.is("odds(-1, 0, 0, 0)", x.odds(-1, 0, 0, 0), EchoSeats.BAD);
        Due.is("odds(11, 0, 0, 0)", x.odds(11, 0, 0, 0), EchoSeats.BAD);
        Due.is("odds(0, 1, 0, 0)", x.odds(0, 1, 0, 0), EchoSeats.BAD);
        Due.is("odds(0, -1, 0, 0)", x.odds(0, -1, 0, 0), EchoSeats.BAD);
        Due.is("odds(0, 0, -1, 0)", x.odds(0, 0, -1, 0), EchoSeats.BAD);
        Due.is("odds(0, 0, 1000000, 0)", x.odds(0, 0, 1000000, 0), EchoSeats.BAD);
        Due.is("odds(0, 0, 999999, 0)", x.odds(0, 0, 999999, 0), 0);
        Due.is("odds(0, 0, 0, 2)", x.odds(0, 0, 0, 2), EchoSeats.BAD);
        Due.is("odds(0, 0, 0, -1)", x.odds(0, 0, 0, -1), EchoSeats.BAD);
    }

    /** As things are NOW: what is done is heard at once. */
    private static void followsWhatIsDone() {
        EchoSeats x = Due.made(WEST_ECHOES + "s1 1;c5 0 8;");
        Due.is("SOUND", x.sound(0, 1), 1200000);
        x.pads(0, 5);
        Due.is("SOUND, padded", x.sound(0, 1), 1100000);
        x.moves(9, 1);
        Due.is("SOUND, moved behind the curtain", x.sound(0, 1), 0);
        x.draws(0, 2, 8);
        Due.is("SOUND, drawn aside", x.sound(0, 1), 1000000 / 65 + 500000 / 101);
        x.undo();
        x.undo();
        x.undo();
        Due.is("SOUND, undone", x.sound(0, 1), 1200000);
    }

    public static void main(String[] args) {
        heardInOrder();
        sound();
        nothingIsHeard();
        oneIsHeard();
        echoIsBetween();
        early();
        fade();
        fadeOfNoSound();
        best();
        oddsOfOneWall();
        oddsOfTwoWalls();
        wrongOdds();
        followsWhatIsDone();
        Due.end();
    }
}

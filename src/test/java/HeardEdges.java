/** Edges of EARLY, FADE, ECHO, BEST, ODDS and of the calls sound, early, fade, best, odds. */
final class HeardEdges {
    private static final int BAD = EchoSeats.BAD, NONE = EchoSeats.NONE;
    private static final int[] FAR = {Integer.MIN_VALUE, Integer.MIN_VALUE + 1, -1000000, 1000000, Integer.MAX_VALUE - 1, Integer.MAX_VALUE};
    /** Only (0, 0) and (-1, 0) are stronger than 0. */
    private static final String WEST_ECHOES = "w0 0;w1 10;w2 10;w3 10;";
    private static final String SILENT = "r20 20;q20 20;s0 0;c1 0 20;";
    private static final String ONE_HEARD = "r3 2;q0 0;s2 2;c1 0 1;";
    /** (-2, 1) at TIME 100 with 5069, (1, -2) at 145 with 2403. */
    private static final String TWO_HEARD = "r3 5;q0 0;s2 4;c1 1 3;";
    /** Something is heard, and all of it has STRENGTH 0. */
    private static final String ALL_SWALLOWED = "w0 10;w1 10;w2 10;w3 10;s9 1;c5 1 1;";

    /** (0, 3) alone, three times by walls that leave a tenth: 1000 by 593. */
    private static final String LEAST_SOUND = "r6 6;w2 9;w3 9;q0 0;s4 0;c1 0 5;";

    private HeardEdges() { }

    private static void early(EchoSeats x, int t, int upper, int lower) {
        Due.is("early(0, " + t + ", 0)", x.early(0, t, 0), upper);
        Due.is("early(0, " + t + ", 1)", x.early(0, t, 1), lower);
    }

    private static void earlyAtItsTime() {
        EchoSeats x = Due.made(WEST_ECHOES + "s1 1;");
        early(x, 0, 5, 6);
        early(x, 19, 5, 6);
        early(x, 20, 1, 1);
        early(x, 21, 1, 1);
        EchoSeats y = Due.made(WEST_ECHOES + "s1 2;");
        early(y, 0, 0, 1);
        early(y, 9, 0, 1);
        early(y, 10, 250000, 333333);
        EchoSeats far = Due.made("r20 20;w0 0;w1 0;w2 0;w3 0;q0 0;s0 20;");
        Due.holds("ahead of the last TIME of all", far.early(0, 823, 0) < far.early(0, 823, 1));
        early(far, 824, 1, 1);
        early(far, 999, 1, 1);
        Due.is("early(0, -1, 0)", x.early(0, -1, 0), BAD);
        Due.is("early(0, 1000, 0)", x.early(0, 1000, 0), BAD);
    }

    private static void earlyOfNoSound() {
        EchoSeats silent = Due.made(SILENT);
        early(silent, 0, 0, 1);
        early(silent, 999, 0, 1);
        EchoSeats swallowed = Due.made(ALL_SWALLOWED);
        Due.holds("something is HEARD", swallowed.sound(0, 0) > 0);
        early(swallowed, 0, 0, 1);
        early(swallowed, 999, 0, 1);
    }

    /** The least SOUND that is not 0. */
    private static void earlyOfTheLeastSound() {
        EchoSeats x = Due.made(LEAST_SOUND);
        Due.is("SOUND", x.sound(0, 1), 1);
        early(x, 242, 0, 1);
        early(x, 243, 1, 1);
        Due.is("FADE", x.fade(0, 1), 243);
        odds(x, 5, 1, 1, 4);
        odds(x, 5, 2, 0, 1);
    }

    private static void tenthsOrLess() {
        // 47619 of 158730 are left behind 28: three tenths.
        EchoSeats just = Due.made(WEST_ECHOES + "s3 3;");
        Due.is("fade(0, 3), just three tenths", just.fade(0, 3), 28);
        Due.is("fade(0, 2)", just.fade(0, 2), 44);
        // 10204 of 34013 are left behind 64: a tenth of one more than three tenths.
        EchoSeats above = Due.made(WEST_ECHOES + "q2 0;s7 4;");
        Due.is("fade(0, 3), a little above three tenths", above.fade(0, 3), 98);
        Due.is("fade(0, 4)", above.fade(0, 4), 64);
        EchoSeats two = Due.made(TWO_HEARD);
        Due.is("fade(0, 1)", two.fade(0, 1), 145);
        Due.is("fade(0, 3)", two.fade(0, 3), 145);
        Due.is("fade(0, 4)", two.fade(0, 4), 100);
        Due.is("fade(0, 9)", two.fade(0, 9), 100);
        EchoSeats one = Due.made(ONE_HEARD);
        Due.is("one is heard: fade(0, 1)", one.fade(0, 1), 72);
        Due.is("one is heard: fade(0, 9)", one.fade(0, 9), 72);
        EchoSeats first = Due.made("w0 10;w1 10;w2 10;w3 10;s1 2;");
        Due.is("behind the first all is 0", first.fade(0, 1), 10);
        Due.is("fade(0, 0)", two.fade(0, 0), BAD);
        Due.is("fade(0, 10)", two.fade(0, 10), BAD);
    }

    private static void fadeOfNothing() {
        EchoSeats silent = Due.made(SILENT);
        for (int p = 1; p <= 9; p++) Due.is("fade(0, " + p + ")", silent.fade(0, p), NONE);
        Due.is("fade(0, 0)", silent.fade(0, 0), BAD);
        EchoSeats swallowed = Due.made(ALL_SWALLOWED);
        Due.is("SOUND", swallowed.sound(0, 1), 0);
        Due.is("SOUND is 0, yet something is heard", swallowed.fade(0, 1), swallowed.heard(0, 0, 0));
    }

    private static void echo() {
        Due.is("none is heard", Due.made(SILENT).sound(0, 2), NONE);
        Due.is("one is heard: how many", Due.made(ONE_HEARD).sound(0, 0), 1);
        Due.is("one is heard", Due.made(ONE_HEARD).sound(0, 2), NONE);
        Due.is("two are heard: how many", Due.made(TWO_HEARD).sound(0, 0), 2);
        Due.is("two are heard", Due.made(TWO_HEARD).sound(0, 2), 45);
        Due.is("two at one TIME: how many", Due.made("r3 5;q0 1;s2 3;c1 1 4;").sound(0, 0), 2);
        Due.is("two at one TIME", Due.made("r3 5;q0 1;s2 3;c1 1 4;").sound(0, 2), 0);
        Due.is("of many", Due.made("s1 2;").sound(0, 2), 12);
        Due.is("the second one has STRENGTH 0", Due.made("w0 10;w2 10;s1 1;").sound(0, 2), 20);
    }

    private static void bestOfSeveral() {
        Due.is("equal fractions of unlike SOUNDS", Due.made(WEST_ECHOES + "s2 1;s1 1;").best(10), 0);
        Due.is("the other way round", Due.made(WEST_ECHOES + "s1 1;s2 1;").best(10), 0);
        // 333333 of 351851 and 500000 of 527777: less than a ten-millionth apart.
        String nearly = "w0 5;w1 10;w2 10;w3 10;q2 1;";
        Due.is("a little more", Due.made(nearly + "s3 2;s2 0;").best(14), 1);
        Due.is("a little less", Due.made(nearly + "s2 0;s3 2;").best(14), 0);
        Due.is("the same seat four times", Due.made("s3 3;s3 3;s3 3;s3 3;").best(100), 0);
        Due.is("the last of four", Due.made("s10 8;s10 8;s10 8;s1 1;").best(0), 3);
        Due.is("none is early", Due.made("s10 8;s9 8;s10 7;").best(0), 0);
        Due.is("all is early", Due.made("s10 8;s9 8;s10 7;").best(999), 0);
        Due.is("nothing is heard at the first", Due.made("q10 8;s0 0;s9 8;c1 0 8;").best(999), 1);
        Due.is("nothing is heard at any", Due.made("q10 8;s0 0;s0 1;c1 0 8;").best(999), 0);
        // 12 of 13 at the first, 1 of 1 at the other.
        Due.is("the least SOUND may be best", Due.made("r17 11;w0 9;w1 9;w2 9;w3 9;q2 7;s8 1;s8 5;c6 0 10;").best(312), 1);
        Due.is("a louder one is not better", Due.made(WEST_ECHOES + "s1 1;s10 1;").best(999), 0);
    }

    private static void bestOfNone() {
        Due.is("best(0)", new EchoSeats().best(0), NONE);
        Due.is("best(999)", new EchoSeats().best(999), NONE);
        Due.is("best(-1)", new EchoSeats().best(-1), BAD);
        Due.is("best(1000)", new EchoSeats().best(1000), BAD);
        EchoSeats x = Due.made("s1 1;");
        Due.is("one seat", x.best(0), 0);
        x.room();
        Due.is("none any more", x.best(0), NONE);
    }

    private static void odds(EchoSeats x, int by, int sound, int upper, int lower) {
        Due.is("odds(" + by + ", 0, " + sound + ", 0)", x.odds(by, 0, sound, 0), upper);
        Due.is("odds(" + by + ", 0, " + sound + ", 1)", x.odds(by, 0, sound, 1), lower);
    }

    private static void oddsOfSoMuch() {
        EchoSeats west = Due.made(WEST_ECHOES + "s1 2;");
        odds(west, 0, 666666, 1, 1);
        odds(west, 0, 666667, 0, 1);
        odds(west, 10, 500000, 1, 1);
        odds(west, 10, 500001, 0, 1);
        odds(west, 1, 666666, 9, 10);
        odds(west, 9, 666666, 1, 10);
        odds(west, 5, 500001, 1, 2);
        odds(west, 2, 666666, 4, 5);
        odds(west, 7, 0, 1, 1);
        odds(west, 7, 999999, 0, 1);
        // Each of four walls, for itself: any of them takes something away.
        EchoSeats all = Due.made("s1 2;");
        int sound = all.sound(0, 1);
        odds(all, 1, sound, 6561, 10000);
        odds(all, 5, sound, 1, 16);
        odds(all, 9, sound, 1, 10000);
        odds(all, 0, sound, 1, 1);
        odds(all, 10, sound, 0, 1);
        odds(all, 1, sound + 1, 0, 1);
        odds(all, 9, 500000, 1, 1);
        // Walls that swallow all anyway.
        odds(Due.made("w0 10;w1 10;w2 10;w3 10;s1 2;"), 5, 500000, 1, 1);
        odds(Due.made("w0 10;w1 10;w2 10;w3 10;s1 2;"), 5, 500001, 0, 1);
    }

    private static void oddsWithCurtains() {
        odds(Due.made(SILENT), 5, 0, 1, 1);
        odds(Due.made(SILENT), 5, 1, 0, 1);
        EchoSeats one = Due.made(ONE_HEARD);
        // (1, -2): EAST, SOUTH and NORTH once each.
        odds(one, 5, 9660, 1, 8);
        odds(one, 5, 9661, 0, 1);
        odds(one, 1, 1, 729, 1000);
        Due.is("the most that can be asked of the loudest", Due.made("s1 1;").odds(10, 0, 999999, 0), 1);
    }

    // ---- the promises

    private static void sound() {
        Due.is("no seat", new EchoSeats().sound(0, 0), BAD);
        EchoSeats x = Due.made("s1 1;s1 2;");
        Due.is("sound(-1, 0)", x.sound(-1, 0), BAD);
        Due.is("sound(2, 0)", x.sound(2, 0), BAD);
        Due.is("sound(0, -1)", x.sound(0, -1), BAD);
        Due.is("sound(0, 3)", x.sound(0, 3), BAD);
        Due.is("sound(0, 0)", x.sound(0, 0), 25);
        Due.is("sound(0, 1)", x.sound(0, 1), 1425639);
        Due.is("sound(1, 2)", x.sound(1, 2), 12);
        for (int far : FAR) {
            Due.is("sound(" + far + ", 0)", x.sound(far, 0), BAD);
            Due.is("sound(0, " + far + ")", x.sound(0, far), BAD);
        }
        EchoSeats silent = Due.made(SILENT);
        Due.is("nothing: how many", silent.sound(0, 0), 0);
        Due.is("nothing: SOUND", silent.sound(0, 1), 0);
        EchoSeats corner = Due.made("r2 2;w0 0;w1 0;w2 0;w3 0;q0 0;s0 0;");
        // Four are there at once, all walls throw all back.
        Due.is("the fourth of the loudest room", corner.heard(0, 3, 1), 1000000);
        Due.holds("SOUND beyond what odds() may be asked", corner.sound(0, 1) > 4000000);
    }

    private static void earlyCall() {
        Due.is("no seat", new EchoSeats().early(0, 0, 0), BAD);
        EchoSeats x = Due.made("s1 1;");
        Due.is("early(-1, 0, 0)", x.early(-1, 0, 0), BAD);
        Due.is("early(1, 0, 0)", x.early(1, 0, 0), BAD);
        Due.is("early(0, -1, 0)", x.early(0, -1, 0), BAD);
        Due.is("early(0, 1000, 0)", x.early(0, 1000, 0), BAD);
        Due.is("early(0, 0, -1)", x.early(0, 0, -1), BAD);
        Due.is("early(0, 0, 2)", x.early(0, 0, 2), BAD);
        for (int far : FAR) {
            Due.is("early(" + far + ", 0, 0)", x.early(far, 0, 0), BAD);
            Due.is("early(0, " + far + ", 0)", x.early(0, far, 0), BAD);
            Due.is("early(0, 0, " + far + ")", x.early(0, 0, far), BAD);
        }
        early(x, 0, 1000000, 1425639);
        early(x, 999, 1, 1);
        early(Due.made(WEST_ECHOES + "s1 1;"), 0, 5, 6);
    }

    private static void fade() {
        Due.is("no seat", new EchoSeats().fade(0, 1), BAD);
        EchoSeats x = Due.made("s1 1;");
        Due.is("fade(-1, 1)", x.fade(-1, 1), BAD);
        Due.is("fade(1, 1)", x.fade(1, 1), BAD);
        Due.is("fade(0, 0)", x.fade(0, 0), BAD);
        Due.is("fade(0, 10)", x.fade(0, 10), BAD);
        for (int far : FAR) {
            Due.is("fade(" + far + ", 1)", x.fade(far, 1), BAD);
            Due.is("fade(0, " + far + ")", x.fade(0, far), BAD);
        }
        // 1425639: 425639 are left behind 0, 105639 behind 20.
        Due.is("fade(0, 9)", x.fade(0, 9), 0);
        Due.is("fade(0, 3)", x.fade(0, 3), 0);
        Due.is("fade(0, 2)", x.fade(0, 2), 20);
        Due.is("fade(0, 1)", x.fade(0, 1), 20);
    }

    private static void best() {
        EchoSeats x = Due.made("s10 8;s1 1;");
        Due.is("best(-1)", x.best(-1), BAD);
        Due.is("best(0)", x.best(0), 1);
        Due.is("best(999)", x.best(999), 0);
        Due.is("best(1000)", x.best(1000), BAD);
        for (int far : FAR) Due.is("best(" + far + ")", x.best(far), BAD);
    }

    private static void oddsCall() {
        Due.is("no seat", new EchoSeats().odds(0, 0, 0, 0), BAD);
        EchoSeats x = Due.made("s1 2;");
        Due.is("odds(-1, 0, 0, 0)", x.odds(-1, 0, 0, 0), BAD);
        Due.is("odds(11, 0, 0, 0)", x.odds(11, 0, 0, 0), BAD);
        Due.is("odds(0, -1, 0, 0)", x.odds(0, -1, 0, 0), BAD);
        Due.is("odds(0, 1, 0, 0)", x.odds(0, 1, 0, 0), BAD);
        Due.is("odds(0, 0, -1, 0)", x.odds(0, 0, -1, 0), BAD);
        Due.is("odds(0, 0, 1000000, 0)", x.odds(0, 0, 1000000, 0), BAD);
        Due.is("odds(0, 0, 0, -1)", x.odds(0, 0, 0, -1), BAD);
        Due.is("odds(0, 0, 0, 2)", x.odds(0, 0, 0, 2), BAD);
        for (int far : FAR) {
            Due.is("odds(" + far + ", 0, 0, 0)", x.odds(far, 0, 0, 0), BAD);
            Due.is("odds(0, " + far + ", 0, 0)", x.odds(0, far, 0, 0), BAD);
            Due.is("odds(0, 0, " + far + ", 0)", x.odds(0, 0, far, 0), BAD);
            Due.is("odds(0, 0, 0, " + far + ")", x.odds(0, 0, 0, far), BAD);
        }
        odds(x, 0, 0, 1, 1);
        odds(x, 10, 0, 1, 1);
        odds(x, 0, 999999, 0, 1);
        odds(x, 10, 999999, 0, 1);
    }

    static void run() {
        Edge.of("EARLY for t (0 .. 999): the STRENGTHS of those HEARD at TIME t or sooner, by SOUND:", HeardEdges::earlyAtItsTime);
        Edge.of("a fraction (0 by 1, if SOUND is 0).", () -> {
            earlyOfNoSound();
            earlyOfTheLeastSound();
        });
        Edge.of("FADE for p (1 .. 9): the least TIME of any HEARD behind which the STRENGTHS that are left are p tenths of SOUND or less;",
                HeardEdges::tenthsOrLess);
        Edge.of("NONE (nothing is HEARD).", HeardEdges::fadeOfNothing);
        Edge.of("ECHO: the TIME between the first and the second one HEARD; NONE (fewer).", HeardEdges::echo);
        Edge.of("BEST for t: the SEAT at which EARLY is most, of several the lowest;", HeardEdges::bestOfSeveral);
        Edge.of("NONE (no SEATS).", HeardEdges::bestOfNone);
        Edge.of("ODDS by x (0 .. 10) of a SEAT, a SOUND (0 .. 999999): each WALL SWALLOWS all (10) by x of 10, for itself, else as it does:",
                HeardEdges::oddsOfSoMuch);
        Edge.of("that SOUND is so much or more: a fraction.", HeardEdges::oddsWithCurtains);
        Edge.of("Of a SEAT: 0 how many are HEARD, 1 SOUND, 2 ECHO (NONE). BAD.", HeardEdges::sound);
        Edge.of("EARLY: upper (what = 0), lower number (1), in least terms. BAD.", HeardEdges::earlyCall);
        Edge.of("FADE; NONE. BAD.", HeardEdges::fade);
        Edge.of("BEST; NONE. BAD.", HeardEdges::best);
        Edge.of("ODDS: upper (what = 0), lower number (1), in least terms. BAD.", HeardEdges::oddsCall);
    }
}

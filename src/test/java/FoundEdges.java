/** Edges of SEEN, UNSEEN, LISTEN and of the calls sees, forget, unseen, listen. */
final class FoundEdges {
    private static final int BAD = EchoSeats.BAD, FULL = EchoSeats.FULL, NONE = EchoSeats.NONE;
    private static final int[] FAR = {Integer.MIN_VALUE, Integer.MIN_VALUE + 1, -1000000, 1000000, Integer.MAX_VALUE - 1, Integer.MAX_VALUE};

    private FoundEdges() { }

    private static void fourAtMost() {
        EchoSeats x = new EchoSeats();
        for (int n = 1; n <= 4; n++) Due.is("sees(0, 0, 10)", x.sees(0, 0, 10), n);
        Due.is("a fifth", x.sees(0, 0, 10), FULL);
        Due.is("count(6)", x.count(6), 4);
        Due.is("the same four times leaves as many places as once", x.unseen(0), 4);
        x.forget();
        Due.is("room for four again", x.sees(0, 0, 10), 1);
        // The fourth counts, too.
        x.sees(0, 0, 10);
        x.sees(0, 0, 10);
        x.sees(0, 0, 11);
        Due.is("the fourth is not so anywhere", x.unseen(0), 0);
    }

    private static void wholePlacesWithin() {
        String[] rooms = {"r2 2;", "r2 20;", "r20 2;", "r20 20;", ""};
        int[] places = {9, 63, 63, 441, 99};
        for (int n = 0; n < rooms.length; n++) {
            Due.is("places of '" + rooms[n] + "'", Due.made(rooms[n]).unseen(0), places[n]);
        }
        corner("q10 8;", 0, 0, 0, 128);
        corner("q10 0;", 0, 8, 8, 128);
        corner("q0 8;", 10, 0, 1000, 128);
        corner("q0 0;", 10, 8, 1008, 128);
    }

    /** The corner over against the source is the one place of that TIME. */
    private static void corner(String text, int x, int y, int first, int time) {
        EchoSeats room = Due.made(text);
        room.sees(0, 0, time);
        Due.is("only " + x + ", " + y + " is so far from '" + text + "'", room.unseen(0), 1);
        Due.is("its number", room.unseen(1), first);
    }

    private static void hiddenOrNot() {
        EchoSeats x = Due.made("q10 8;s0 0;c5 0 8;");
        Due.is("(0, 0) is HIDDEN at the seat", x.path(0, 0, 0, 3), 1);
        x.sees(0, 0, 128);
        Due.is("yet it was SEEN there", x.unseen(0), 1);
        Due.is("at", x.unseen(1), 0);
        EchoSeats swallowed = Due.made("w0 10;q1 1;");
        swallowed.sees(-1, 0, 20);
        // The image is at -1, 1: 1, 1 is the one place two away from it.
        Due.is("STRENGTH 0 has a TIME, too", swallowed.unseen(1), 101);
    }

    private static void allThatWasSeen() {
        EchoSeats x = Due.made("r2 2;q0 0;");
        x.sees(0, 0, 0);
        Due.is("at the source", x.unseen(0), 1);
        Due.is("at 0, 0", x.unseen(1), 0);
        x.forget();
        x.sees(0, 0, 9);
        Due.is("one less than a TIME", x.unseen(0), 0);
        x.forget();
        x.sees(0, 0, 11);
        Due.is("one more than a TIME", x.unseen(0), 0);
        x.forget();
        x.sees(0, 0, 10);
        Due.is("just that TIME", x.unseen(0), 2);
        Due.is("the first of 1 and 100", x.unseen(1), 1);
        x.sees(1, 0, 40);
        Due.is("(1, 0) at 4, 0 is 41 from 0, 1 and 30 from 1, 0", x.unseen(0), 0);
        x.forget();
        x.sees(0, 0, 10);
        x.sees(1, 0, 30);
        Due.is("both are so at 1, 0", x.unseen(0), 1);
        Due.is("100", x.unseen(1), 100);
    }

    private static void nowhere() {
        EchoSeats x = new EchoSeats();
        x.sees(0, 0, 9999);
        Due.is("how many", x.unseen(0), 0);
        Due.is("the first", x.unseen(1), NONE);
        Due.is("no number", x.unseen(2), BAD);
        Due.is("listen()", x.listen(), NONE);
        EchoSeats wide = Due.made("r20 20;q0 0;");
        wide.sees(3, 0, 824);
        Due.is("the longest TIME is somewhere", wide.unseen(1), 20);
        wide.forget();
        wide.sees(3, 0, 825);
        Due.is("one more is nowhere", wide.unseen(1), NONE);
    }

    private static void listen(String text, int i, int j, int time, int places, int due) {
        EchoSeats x = Due.made(text);
        x.sees(i, j, time);
        Due.is("places of '" + text + "'", x.unseen(0), places);
        Due.is("listen() in '" + text + "'", x.listen(), due);
    }

    private static void theFirstOfSeveral() {
        // 2, 1 and 4, 3: all but two IMAGES tell them apart, (-3, 0) is the first.
        listen("r6 3;q0 1;", 0, 1, 44, 2, 3);
        // 5, 0 and 5, 1: from (-3, 0) both take 230, from (-2, -1) and (-2, 0) 110, from (-2, 1) 162 and 155.
        listen("r6 6;q6 0;", -2, 0, 110, 2, 104);
        // 0, 0, 0, 4 and 2, 2: two TIMES from all ahead of (-1, -2), three from that.
        listen("r2 4;q0 2;", 0, 0, 20, 3, 201);
        Due.is("nothing is SEEN", new EchoSeats().listen(), 402);
        // The last IMAGE of all: 97 TIMES over 140 places, one more than any other tells.
        Due.is("the last one alone", Due.made("r13 9;q3 0;").listen(), 603);
        Due.is("over the most places", Due.made("r20 20;").listen(), 104);
        Due.is("over the most places, from the far corner", Due.made("r20 20;q20 20;").listen(), 205);
        Due.is("over the fewest", Due.made("r2 2;").listen(), 102);
    }

    private static void fewerPlacesThanBefore() {
        EchoSeats x = Due.made("r6 6;q6 0;");
        Due.is("all places", x.unseen(0), 49);
        x.sees(-2, 0, 110);
        // A place of before, taken for a third one, would be told by (-3, 0) already.
        Due.is("two places behind many", x.listen(), 104);
    }

    private static void onePlaceAtMost() {
        listen("r2 2;q0 0;", 0, 0, 10, 2, 3);
        listen("r2 2;q0 0;", 0, 0, 0, 1, NONE);
        listen("r2 2;q0 0;", 0, 0, 5, 0, NONE);
    }

    // ---- the promises

    private static void sees() {
        EchoSeats x = new EchoSeats();
        Due.is("sees(0, 0, -1)", x.sees(0, 0, -1), BAD);
        Due.is("sees(0, 0, 10000)", x.sees(0, 0, 10000), BAD);
        Due.is("sees(4, 0, 0)", x.sees(4, 0, 0), BAD);
        Due.is("sees(-4, 0, 0)", x.sees(-4, 0, 0), BAD);
        Due.is("sees(0, 4, 0)", x.sees(0, 4, 0), BAD);
        Due.is("sees(0, -4, 0)", x.sees(0, -4, 0), BAD);
        Due.is("sees(2, -2, 0)", x.sees(2, -2, 0), BAD);
        for (int far : FAR) {
            Due.is("sees(" + far + ", 0, 0)", x.sees(far, 0, 0), BAD);
            Due.is("sees(0, " + far + ", 0)", x.sees(0, far, 0), BAD);
            Due.is("sees(0, 0, " + far + ")", x.sees(0, 0, far), BAD);
        }
        Due.is("sees(0, 0, 0)", x.sees(0, 0, 0), 1);
        Due.is("sees(0, 0, 9999)", x.sees(0, 0, 9999), 2);
        Due.is("sees(-3, 0, 1)", x.sees(-3, 0, 1), 3);
        Due.is("sees(1, 2, 1)", x.sees(1, 2, 1), 4);
        Due.is("a fifth", x.sees(0, 0, 0), FULL);
        Due.is("a fifth of no TIME", x.sees(0, 0, 10000), BAD);
        Due.is("a fifth of no IMAGE", x.sees(3, 1, 0), BAD);
    }

    private static void forget() {
        EchoSeats x = new EchoSeats();
        Due.is("nothing was SEEN", x.forget(), 0);
        for (int n = 0; n < 5; n++) x.sees(0, 0, 0);
        Due.is("four were", x.forget(), 4);
        Due.is("count(6)", x.count(6), 0);
        Due.is("all places again", x.unseen(0), 99);
        Due.is("forget() again", x.forget(), 0);
        x.sees(0, 0, 10);
        Due.is("an old one does not come back", x.unseen(0), 4);
        x.sees(0, 0, 10000);
        Due.is("a refused one was not SEEN", x.forget(), 1);
    }

    private static void unseen() {
        EchoSeats x = new EchoSeats();
        Due.is("unseen(-1)", x.unseen(-1), BAD);
        Due.is("unseen(0)", x.unseen(0), 99);
        Due.is("unseen(1)", x.unseen(1), 0);
        Due.is("unseen(2)", x.unseen(2), BAD);
        for (int far : FAR) Due.is("unseen(" + far + ")", x.unseen(far), BAD);
        x.sees(0, 0, 5);
        Due.is("how many are none", x.unseen(0), 0);
        Due.is("the first of none", x.unseen(1), NONE);
    }

    private static void listenCall() {
        EchoSeats x = Due.made("r2 2;q0 0;");
        Due.holds("many places", x.listen() >= 0);
        x.sees(0, 0, 10);
        Due.is("two places", x.listen(), 3);
        x.sees(-3, 0, 41);
        Due.is("one place", x.listen(), NONE);
        x.sees(0, 0, 11);
        Due.is("no place", x.listen(), NONE);
        x.forget();
        x.sees(0, 0, 10);
        Due.is("two places again", x.listen(), 3);
    }

    static void run() {
        Edge.of("SEEN (4 at most):", FoundEdges::fourAtMost);
        Edge.of("at an unknown place (whole x, y within THE ROOM)", FoundEdges::wholePlacesWithin);
        Edge.of("IMAGE (i, j) had a TIME (HIDDEN or not).", FoundEdges::hiddenOrNot);
        Edge.of("UNSEEN: places by which all that was SEEN is so: how many; the first (100 x and y, the least number);",
                FoundEdges::allThatWasSeen);
        Edge.of("the first (100 x and y, the least number); NONE.", FoundEdges::nowhere);
        Edge.of("LISTEN: the IMAGE by which, over these places, the most unlike TIMES are told, of several the first (by i, then j):"
                + " 100 times i and 3, and j and 3;", () -> {
            theFirstOfSeveral();
            fewerPlacesThanBefore();
        });
        Edge.of("NONE (one place can be at most).", FoundEdges::onePlaceAtMost);
        Edge.of("SEEN: how much there is. BAD (TIME 0 .. 9999); FULL: 4.", FoundEdges::sees);
        Edge.of("Nothing is SEEN: how much was.", FoundEdges::forget);
        Edge.of("UNSEEN: how many (what = 0), the first (1; NONE). BAD.", FoundEdges::unseen);
        Edge.of("LISTEN; NONE.", FoundEdges::listenCall);
    }
}

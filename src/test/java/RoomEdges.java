/** Edges of THE ROOM, of THE TEXT and of the calls type, clear, room, wall, seat, curtain. */
final class RoomEdges {
    private static final int BAD = EchoSeats.BAD, FULL = EchoSeats.FULL;
    private static final int[] FAR = {Integer.MIN_VALUE, Integer.MIN_VALUE + 1, -1000000, -10, Integer.MAX_VALUE - 1, Integer.MAX_VALUE};

    private RoomEdges() { }

    /** Told to a new object; a text with a FAULT stays, one without is gone. */
    static void answers(String text, int due) {
        EchoSeats x = new EchoSeats();
        Due.is("room() of '" + text + "'", Due.tell(x, text), due);
        Due.is("letters behind room() of '" + text + "'", x.count(7), due >= 0 ? 0 : Math.min(100, text.length()));
    }

    private static void fault(String text, int place) {
        answers(text, -10 - place);
    }

    private static void asAtFirst(EchoSeats x) {
        int[] counts = {10, 8, 1, 1, 0, 0, 0, 0, 0};
        for (int what = 0; what < counts.length; what++) {
            Due.is("count(" + what + ")", x.count(what), counts[what]);
        }
        for (int wall = 0; wall < 4; wall++) {
            Due.is("wall(" + wall + ")", x.wall(wall), 2);
        }
        Due.is("seat(0, 0)", x.seat(0, 0), BAD);
        Due.is("curtain(0, 0)", x.curtain(0, 0), BAD);
        Due.is("undo()", x.undo(), EchoSeats.STATE);
        Due.is("back(0)", x.back(0), EchoSeats.STATE);
        Due.is("back(1)", x.back(1), EchoSeats.STATE);
    }

    // ---- the terms

    private static void sides() {
        Due.is("LENGTH at first", new EchoSeats().count(0), 10);
        Due.is("BREADTH at first", new EchoSeats().count(1), 8);
        fault("r0 5;", 1);
        fault("r1 5;", 1);
        Due.is("LENGTH 2", Due.made("r2 5;").count(0), 2);
        Due.is("LENGTH 20", Due.made("r20 5;").count(0), 20);
        fault("r21 5;", 1);
        fault("r5 0;", 3);
        fault("r5 1;", 3);
        Due.is("BREADTH 2", Due.made("r5 2;").count(1), 2);
        Due.is("BREADTH 20", Due.made("r5 20;").count(1), 20);
        fault("r5 21;", 3);
        // A source on a wall is its own image in that wall.
        EchoSeats low = Due.made("r6 4;q0 0;");
        Due.is("WEST is x 0", low.mirror(-1, 0, 0), 0);
        Due.is("SOUTH is y 0", low.mirror(0, -1, 1), 0);
        EchoSeats high = Due.made("r6 4;q6 4;");
        Due.is("EAST is x LENGTH", high.mirror(1, 0, 0), 6);
        Due.is("NORTH is y BREADTH", high.mirror(0, 1, 1), 4);
    }

    private static void walls() {
        int[][] imageOfWall = {{-1, 0}, {1, 0}, {0, -1}, {0, 1}};
        for (int wall = 0; wall < 4; wall++) {
            Due.is("at first: wall(" + wall + ")", new EchoSeats().wall(wall), 2);
            Due.is("none: wall(" + wall + ")", Due.made("w" + wall + " 0;").wall(wall), 0);
            EchoSeats x = Due.made("s5 5;w" + wall + " 10;");
            Due.is("all: wall(" + wall + ")", x.wall(wall), 10);
            for (int other = 0; other < 4; other++) {
                boolean comes = x.path(0, imageOfWall[other][0], imageOfWall[other][1], 2) > 0;
                Due.holds("wall " + wall + " swallows its own image alone: " + other, comes == (wall != other));
            }
            fault("w" + wall + " 11;", 3);
        }
        fault("w4 0;", 1);
    }

    private static void sourceWithin() {
        Due.is("x at first", new EchoSeats().count(2), 1);
        Due.is("y at first", new EchoSeats().count(3), 1);
        answers("q0 0;q10 0;q0 8;q10 8;", 4);
        fault("q11 8;", 1);
        fault("q10 9;", 4);
        answers("r3 5;q3 5;", 2);
        fault("r3 5;q4 5;", 6);
        fault("r3 5;q3 6;", 8);
        answers("r5 3;q5 3;", 2);
        fault("r5 3;q3 5;", 8);
        EchoSeats x = Due.made("r20 20;q20 20;");
        Due.is("the farthest x", x.count(2), 20);
        Due.is("the farthest y", x.count(3), 20);
    }

    private static void seatsAtMost() {
        EchoSeats x = Due.made("s0 0;s10 0;s0 8;s10 8;");
        int[][] due = {{0, 0}, {10, 0}, {0, 8}, {10, 8}};
        for (int seat = 0; seat < 4; seat++) {
            Due.is("x of seat " + seat, x.seat(seat, 0), due[seat][0]);
            Due.is("y of seat " + seat, x.seat(seat, 1), due[seat][1]);
        }
        Due.is("count(4)", x.count(4), 4);
        fault("s0 0;s0 0;s0 0;s0 0;s0 0;", 20);
        fault("s11 0;", 1);
        fault("s0 9;", 3);
        fault("r3 5;s4 5;", 6);
        fault("r3 5;s3 6;", 8);
        Due.is("one seat is seat 0", Due.made("s3 4;").seat(0, 1), 4);
    }

    private static void curtainsAtMost() {
        EchoSeats x = Due.made("c1 0 0;c9 8 8;c5 0 8;");
        int[][] due = {{1, 0, 0}, {9, 8, 8}, {5, 0, 8}};
        for (int curtain = 0; curtain < 3; curtain++) {
            for (int what = 0; what < 3; what++) {
                Due.is("curtain(" + curtain + ", " + what + ")", x.curtain(curtain, what), due[curtain][what]);
            }
        }
        Due.is("count(5)", x.count(5), 3);
        fault("c1 0 0;c1 0 0;c1 0 0;c1 0 0;", 21);
        fault("c0 0 0;", 1);
        fault("c10 0 0;", 1);
        answers("r2 2;c1 0 2;", 2);
        fault("r2 2;c2 0 2;", 6);
        answers("r20 20;c19 20 20;", 2);
        fault("r20 20;c20 20 20;", 8);
        fault("c5 9 9;", 3);
        fault("c5 0 9;", 5);
        fault("c5 4 3;", 5);
        answers("c5 4 4;", 1);
        answers("r20 3;c19 0 3;", 2);
        fault("r20 3;c19 0 4;", 12);
        fault("r3 20;c3 0 20;", 7);
    }

    // ---- the text

    private static void hundredLetters() {
        String text = "r20 20;w0 10;w1 10;w2 10;w3 10;q20 20;s20 20;s20 20;s20 20;s20 20;c19 0 20;c19 20 20;q10 10;       ;";
        Due.is("letters of the text", text.length(), 100);
        EchoSeats x = new EchoSeats();
        for (int n = 0; n < 99; n++) {
            Due.is("letter " + n, x.type(text.charAt(n)), n + 1);
        }
        Due.is("the hundredth letter", x.type(32), 100);
        Due.is("the letter behind it", x.type(32), FULL);
        Due.is("a full text is read whole", x.room(), 13);
        Due.is("the last of it", x.count(2), 10);
        fault(text, 99);
        fault("s1 1;" + " ".repeat(94) + "s", 100);
        answers(" ".repeat(94) + "s10 8;", 1);
        // Behind a hundred letters nothing more is taken.
        answers(" ".repeat(95) + "s1 1;s", 1);
    }

    private static void blanksAlone() {
        answers(" r 10  8 ; s   1 1 ;  ", 2);
        for (int letter : new int[] {0, 9, 10, 11, 12, 13, 31, 33, 127, 160, 255}) {
            fault("s1" + (char) letter + "1;", 2);
            fault((char) letter + "s1 1;", 0);
            fault("s1 1;" + (char) letter, 5);
        }
    }

    private static void itemsAreEnded() {
        String[] items = {"r9 7", "w1 5", "q2 3", "s4 5", "c6 1 2"};
        for (String item : items) {
            answers(item + ";", 1);
            fault(item, item.length());
            fault(item + " 1;", item.length() + 1);
            fault(item + "s1 1;", item.length());
            fault(item + ";;", item.length() + 1);
            fault(item.substring(0, item.length() - 2) + ";", item.length() - 2);
            fault(item.charAt(0) + ";", 1);
        }
        fault(";", 0);
    }

    private static void roomComesFirst() {
        answers("r9 7;s9 7;", 2);
        answers("s9 7;", 1);
        for (String item : new String[] {"r9 7;", "w1 5;", "q2 3;", "s4 5;", "c6 1 2;"}) {
            fault(item + "r9 7;", item.length());
        }
    }

    private static void eachItem() {
        EchoSeats x = Due.made("w0 3;w3 7;q2 5;s4 6;s7 1;c6 1 2;c3 4 5;");
        int[] walls = {3, 2, 2, 7};
        for (int wall = 0; wall < 4; wall++) Due.is("wall(" + wall + ")", x.wall(wall), walls[wall]);
        Due.is("the source's x", x.count(2), 2);
        Due.is("the source's y", x.count(3), 5);
        Due.is("the first seat's x", x.seat(0, 0), 4);
        Due.is("the first seat's y", x.seat(0, 1), 6);
        Due.is("the next seat's x", x.seat(1, 0), 7);
        Due.is("the next seat's y", x.seat(1, 1), 1);
        int[] next = {3, 4, 5};
        for (int what = 0; what < 3; what++) Due.is("the next curtain", x.curtain(1, what), next[what]);
    }

    private static void figuresMeet() {
        answers("r10 8;w0 1;q1 1;s1 1;c1 1 1;", 5);
        answers("r 10 8 ; w 0 1 ; q 1 1 ; s 1 1 ; c 1 1 1 ;", 5);
        fault("r108;", 1);
        fault("r1 08;", 1);
        fault("r20 20;s11;", 10);
        fault("r20 20;s1 11", 12);
        fault("s1;1;", 2);
        for (String letter : new String[] {"R", "W", "Q", "S", "C", "t", "-", "+", "."}) {
            fault(letter + "1 1;", 0);
            fault("s" + letter + "1 1;", 1);
            fault("s1" + letter + "1;", 2);
        }
    }

    private static void noItems() {
        answers("", 0);
        answers(" ", 0);
        answers(" ".repeat(100), 0);
        EchoSeats x = Due.made("r6 4;w0 3;q2 2;s1 2;c1 0 2;");
        Due.is("room() of no text", x.room(), 0);
        asAtFirst(x);
        EchoSeats y = Due.made("r6 4;w0 3;q2 2;s1 2;c1 0 2;");
        Due.is("room() of blanks", Due.tell(y, "  "), 0);
        asAtFirst(y);
    }

    private static void cannotStand() {
        fault("s1 1;r5 5;", 5);
        fault("  s1 1 ; r5 5;", 9);
        fault("s1 1;s1 1;c1 1 1;s1 1;s1 1;s 1 1;", 27);
        fault("c1 1 1;s1 1;c1 1 1;c1 1 1;c 1 1 1;", 26);
        fault("s 10 9;", 5);
        fault("s  11 9;", 3);
        fault("q1 1;q 11 9;", 7);
        fault("c1 1 1;c9 3 2;", 12);
        // The number itself, not its last figure nor the blank ahead of it.
        fault("w0  11;", 4);
        // The first of several.
        fault("s99 99;x", 1);
        fault("s1 1 x;r1 1;", 5);
    }

    private static void anyOtherLetter() {
        String tokens = "rwqsc;0123456789 ";
        for (int letter = 0; letter < 256; letter++) {
            if (tokens.indexOf(letter) >= 0) continue;
            fault("" + (char) letter, 0);
            fault("s" + (char) letter, 1);
            fault("s1 1" + (char) letter, 4);
            fault("s1 1;  " + (char) letter + ";", 7);
        }
        for (char letter : "0123456789;".toCharArray()) fault(letter + " ", 0);
        for (char letter : "rwqsc".toCharArray()) {
            fault(letter + "", 1);
            fault("s" + letter, 1);
            fault("s1 1" + letter, 4);
        }
    }

    private static void wrongNumbers() {
        String[] numbers = {"99", "100", "101", "256", "4294967297", "18446744073709551617", "00", "01", "000", "010", "0".repeat(90)};
        for (String number : numbers) {
            fault("s" + number + " 1;", 1);
            fault("s1 " + number + ";", 3);
            fault("w" + number + " 1;", 1);
            fault("s" + number, 1);
            fault(" " + number, 1);
        }
        fault("s" + "1".repeat(99), 1);
        fault("s" + "9".repeat(98) + ";", 1);
        answers("s0 0;w0 0;q10 0;", 3);
    }

    private static void endsTooEarly() {
        String text = "r3 4;w0 5;q3 4;s3 4;c2 3 4;";
        int items = 0;
        for (int n = 0; n <= text.length(); n++) {
            String part = text.substring(0, n);
            if (part.isEmpty() || part.endsWith(";")) {
                answers(part, items++);
            } else {
                fault(part, n);
                fault(part + "   ", n + 3);
            }
        }
        fault("s1 1" + " ".repeat(96), 100);
        fault(" ".repeat(99) + "s", 100);
    }

    private static void toldAgain() {
        EchoSeats x = Due.made("w2 1;w2 9;w2 0;q3 3;q0 8;");
        Due.is("wall(2)", x.wall(2), 0);
        Due.is("the source's x", x.count(2), 0);
        Due.is("the source's y", x.count(3), 8);
        EchoSeats y = Due.made("r5 5;w2 1;q3 3;");
        Due.is("without r", Due.tell(y, "s10 8;"), 1);
        Due.is("LENGTH", y.count(0), 10);
        Due.is("BREADTH", y.count(1), 8);
        Due.is("wall(2), not told again", y.wall(2), 2);
        Due.is("the source's x, not told again", y.count(2), 1);
        Due.is("the seat", y.seat(0, 0), 10);
        Due.is("LENGTH is not 5 any more, nor 11", Due.tell(y, "s11 8;"), -11);
    }

    // ---- the promises

    private static void newObject() {
        asAtFirst(new EchoSeats());
        EchoSeats x = new EchoSeats();
        Due.is("clear()", x.clear(), 0);
        Due.is("forget()", x.forget(), 0);
        Due.is("unseen(0)", x.unseen(0), 99);
        Due.is("best(0)", x.best(0), EchoSeats.NONE);
        Due.is("another object has a text of its own", new EchoSeats().type(32), 1);
        Due.is("type(32)", x.type(32), 1);
    }

    private static void type() {
        EchoSeats x = new EchoSeats();
        Due.is("type(-1)", x.type(-1), BAD);
        Due.is("type(256)", x.type(256), BAD);
        for (int letter : FAR) Due.is("type(" + letter + ")", x.type(letter), BAD);
        Due.is("type(0)", x.type(0), 1);
        Due.is("type(255)", x.type(255), 2);
        for (int n = 3; n <= 100; n++) Due.is("type(32)", x.type(32), n);
        Due.is("type(0)", x.type(0), FULL);
        Due.is("type(255)", x.type(255), FULL);
        Due.is("type(256) of a full text", x.type(256), BAD);
        Due.is("type(-1) of a full text", x.type(-1), BAD);
        Due.is("clear()", x.clear(), 100);
        Due.is("type(32) again", x.type(32), 1);
    }

    private static void clear() {
        EchoSeats x = new EchoSeats();
        Due.is("clear() of nothing typed", x.clear(), 0);
        Due.types(x, "x1");
        Due.is("clear()", x.clear(), 2);
        Due.is("clear() again", x.clear(), 0);
        Due.is("count(7)", x.count(7), 0);
        Due.is("what was cleared is not read", Due.tell(x, "s1 1;"), 1);
        Due.types(x, " ".repeat(101));
        Due.is("clear() of a full text", x.clear(), 100);
        Due.is("a seat stays", x.count(4), 1);
    }

    private static void room() {
        EchoSeats x = new EchoSeats();
        Due.is("the most ITEMS of a hundred letters", Due.tell(x, "q0 0;".repeat(20)), 20);
        Due.is("the text is empty then", x.count(7), 0);
        Due.is("and tells nothing any more", x.room(), 0);
        Due.is("a FAULT at 0", Due.tell(x, "x"), -10);
        Due.is("the text stays", x.count(7), 1);
        Due.is("and is read again", x.room(), -10);
        x.clear();
        Due.is("a FAULT at the last letter", Due.tell(x, " ".repeat(99) + "x"), -109);
        x.clear();
        Due.is("a FAULT behind the last letter", Due.tell(x, " ".repeat(99) + "s"), -110);
        Twins.unchanged("room() of a text that ends too early", y -> {
            Due.tell(y, "r6 4;w0 3;q2 2;s1 2;s2 2;c1 0 2;");
            y.keep(1);
            y.pads(1, 7);
            y.draws(0, 1, 1);
            y.moves(6, 4);
            y.keep(0);
            y.sees(0, 0, 10);
            Due.types(y, "r5 5;w0 1;w1 1;q0 0;s0 0;c1 1 1;c4 5 5");
        }, y -> y.room(), -48);
    }

    private static void wall() {
        EchoSeats x = Due.made("w0 0;w3 10;");
        Due.is("wall(-1)", x.wall(-1), BAD);
        Due.is("wall(0)", x.wall(0), 0);
        Due.is("wall(3)", x.wall(3), 10);
        Due.is("wall(4)", x.wall(4), BAD);
        for (int wall : FAR) Due.is("wall(" + wall + ")", x.wall(wall), BAD);
    }

    private static void seat() {
        Due.is("no seat", new EchoSeats().seat(0, 0), BAD);
        EchoSeats x = Due.made("s0 8;s10 0;");
        Due.is("seat(-1, 0)", x.seat(-1, 0), BAD);
        Due.is("seat(0, 0)", x.seat(0, 0), 0);
        Due.is("seat(0, 1)", x.seat(0, 1), 8);
        Due.is("seat(1, 0)", x.seat(1, 0), 10);
        Due.is("seat(1, 1)", x.seat(1, 1), 0);
        Due.is("seat(2, 0)", x.seat(2, 0), BAD);
        Due.is("seat(0, -1)", x.seat(0, -1), BAD);
        Due.is("seat(0, 2)", x.seat(0, 2), BAD);
        EchoSeats full = Due.made("s1 1;s1 1;s1 1;s10 8;");
        Due.is("seat(3, 1)", full.seat(3, 1), 8);
        Due.is("seat(4, 0)", full.seat(4, 0), BAD);
        Due.tell(full, "s1 1;");
        Due.is("a seat that was there before", full.seat(1, 0), BAD);
        for (int far : FAR) {
            Due.is("seat(" + far + ", 0)", x.seat(far, 0), BAD);
            Due.is("seat(0, " + far + ")", x.seat(0, far), BAD);
        }
    }

    private static void curtain() {
        Due.is("no curtain", new EchoSeats().curtain(0, 0), BAD);
        EchoSeats x = Due.made("c9 0 8;");
        int[] due = {9, 0, 8};
        Due.is("curtain(-1, 0)", x.curtain(-1, 0), BAD);
        for (int what = 0; what < 3; what++) Due.is("curtain(0, " + what + ")", x.curtain(0, what), due[what]);
        Due.is("curtain(1, 0)", x.curtain(1, 0), BAD);
        Due.is("curtain(0, -1)", x.curtain(0, -1), BAD);
        Due.is("curtain(0, 3)", x.curtain(0, 3), BAD);
        EchoSeats full = Due.made("c1 0 0;c1 0 0;c1 2 3;");
        Due.is("curtain(2, 2)", full.curtain(2, 2), 3);
        Due.is("curtain(3, 2)", full.curtain(3, 2), BAD);
        Due.tell(full, "c1 0 0;");
        Due.is("a curtain that was there before", full.curtain(1, 0), BAD);
        for (int far : FAR) {
            Due.is("curtain(" + far + ", 0)", x.curtain(far, 0), BAD);
            Due.is("curtain(0, " + far + ")", x.curtain(0, far), BAD);
        }
    }

    static void run() {
        Edge.of("LENGTH, BREADTH (2 .. 20; 10 and 8 at first): x from 0 (WEST wall) to LENGTH (EAST), y from 0 (SOUTH) to BREADTH (NORTH).",
                RoomEdges::sides);
        Edge.of("WALLS 0 WEST, 1 EAST, 2 SOUTH, 3 NORTH, each SWALLOWS 0 to 10 tenths (2 at first).", RoomEdges::walls);
        Edge.of("THE SOURCE at x, y within THE ROOM (1, 1 at first).", RoomEdges::sourceWithin);
        Edge.of("SEATS 0, 1, .. (4 at most), each at x, y.", RoomEdges::seatsAtMost);
        Edge.of("CURTAINS 0, 1, .. (3 at most), each at an x (1 .. LENGTH less 1), from a y to another one (not less; 0 .. BREADTH).",
                RoomEdges::curtainsAtMost);
        Edge.of("They are a text (100 letters at most), told letter by letter,", RoomEdges::hundredLetters);
        Edge.of("blanks (32) between TOKENS;", RoomEdges::blanksAlone);
        Edge.of("ITEMS, each ended by ; :", RoomEdges::itemsAreEnded);
        Edge.of("r L B (THE ROOM; the first of all, if it is told) ;", RoomEdges::roomComesFirst);
        Edge.of("w W A (what a WALL SWALLOWS) ; q X Y (THE SOURCE) ; s X Y (the next SEAT) ; c X A B (the next CURTAIN, y from A to B).",
                RoomEdges::eachItem);
        Edge.of("TOKENS are the letters r, w, q, s, c, NUMBERS (rows of figures) and ; (where no figures meet there need be no blanks between them).",
                RoomEdges::figuresMeet);
        Edge.of("No ITEMS are no FAULT (all as at first).", RoomEdges::noItems);
        Edge.of("FAULT: the place of the first letter of the first TOKEN that can't stand there"
                + " (r behind another ITEM, a fifth s, a fourth c, a NUMBER beyond what it may be, too);", RoomEdges::cannotStand);
        Edge.of("of any other letter,", RoomEdges::anyOtherLetter);
        Edge.of("a NUMBER above 99 or with a 0 ahead of others, that TOKEN's;", RoomEdges::wrongNumbers);
        Edge.of("the text's length, if it ends too early.", RoomEdges::endsTooEarly);
        Edge.of("(w, q told again are as told last. Without r: THE ROOM is 10 by 8.)", RoomEdges::toldAgain);
        Edge.of("As told; no SEATS, no CURTAINS.", RoomEdges::newObject);
        Edge.of("A letter (0 .. 255) comes to THE TEXT: how many it has. BAD; FULL: 100.", RoomEdges::type);
        Edge.of("THE TEXT is empty: how many letters it had.", RoomEdges::clear);
        Edge.of("THE TEXT tells all anew, and is empty then: how many ITEMS. -10 less FAULT: nothing changes.", RoomEdges::room);
        Edge.of("What a WALL SWALLOWS. BAD.", RoomEdges::wall);
        Edge.of("Of a SEAT: x (what = 0), y (1). BAD.", RoomEdges::seat);
        Edge.of("Of a CURTAIN: 0 x, 1 from, 2 to. BAD.", RoomEdges::curtain);
    }
}

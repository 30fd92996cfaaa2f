import java.util.Arrays;

/**
 * Echoes in a room with four walls, heard at its seats.
 * The words in the comments (IMAGE, WAY, HEARD ..) are those of the document.
 */
public final class EchoSeats {
    public static final int BAD = -1, STATE = -2, FULL = -3, NONE = -9;
    public static final int NO = -1000000;

    private static final int WEST = 0, EAST = 1, SOUTH = 2, NORTH = 3, WALLS = 4;
    private static final int MOST_SEATS = 4, MOST_CURTAINS = 3, MOST_SEEN = 4;
    private static final int MOST_UNDONE = 10, MOST_LETTERS = 100, MOST_KEPT = 2;
    private static final int LEAST_SIDE = 2, MOST_SIDE = 20;
    private static final int MOST_ORDER = 3, IMAGES = 25;
    private static final int TENTHS = 10, ALL_TENTHS = 10000;
    private static final int LATEST_EARLY = 999, LATEST_SEEN = 9999, LOUDEST_ASKED = 999999;
    private static final int FULL_STRENGTH = 1000000;
    /* The longest WAY squared is 80 * 80 + 20 * 20, so that every TIME is below 825. */
    private static final int TIMES = 1024;

    private final Scene now;
    private final Scene draft;
    private final Scene[] kept;
    private final boolean[] isKept;
    private final Text text;
    private final Past past;
    private final Ear ear;
    private final Finder finder;

    public EchoSeats() {
        now = new Scene();
        draft = new Scene();
        kept = new Scene[MOST_KEPT];
        for (int k = 0; k < MOST_KEPT; k++) {
            kept[k] = new Scene();
        }
        isKept = new boolean[MOST_KEPT];
        text = new Text();
        past = new Past();
        ear = new Ear();
        finder = new Finder();
    }

    // ---- the room

    public int type(int letter) {
        if (!isWithin(letter, 0, 255)) {
            return BAD;
        }
        return text.append(letter) ? text.size : FULL;
    }

    public int clear() {
        int had = text.size;
        text.size = 0;
        return had;
    }

    public int room() {
        int items = text.readInto(draft);
        if (items < 0) {
            return items;
        }
        now.copyFrom(draft);
        text.size = 0;
        past.size = 0;
        finder.seen = 0;
        dropKept();
        return items;
    }

    public int wall(int wall) {
        return isWithin(wall, 0, WALLS - 1) ? now.swallows[wall] : BAD;
    }

    public int seat(int seat, int what) {
        if (!now.hasSeat(seat) || !isWithin(what, 0, 1)) {
            return BAD;
        }
        return what == 0 ? now.seatX[seat] : now.seatY[seat];
    }

    public int curtain(int curtain, int what) {
        if (!now.hasCurtain(curtain)) {
            return BAD;
        }
        switch (what) {
            case 0: return now.curtainX[curtain];
            case 1: return now.curtainFrom[curtain];
            case 2: return now.curtainTo[curtain];
            default: return BAD;
        }
    }

    // ---- what is done

    public int pads(int wall, int a) {
        if (!isWithin(wall, 0, WALLS - 1) || !isWithin(a, 0, TENTHS)) {
            return BAD;
        }
        int before = now.swallows[wall];
        if (before == a) {
            return STATE;
        }
        past.add(Past.WALL, wall, before, 0);
        now.swallows[wall] = a;
        return before;
    }

    public int draws(int curtain, int from, int to) {
        if (!now.hasCurtain(curtain) || !isWithin(from, 0, now.breadth) || !isWithin(to, from, now.breadth)) {
            return BAD;
        }
        int oldFrom = now.curtainFrom[curtain];
        int oldTo = now.curtainTo[curtain];
        if (oldFrom == from && oldTo == to) {
            return STATE;
        }
        past.add(Past.CURTAIN, curtain, oldFrom, oldTo);
        now.curtainFrom[curtain] = from;
        now.curtainTo[curtain] = to;
        return 100 * oldFrom + oldTo;
    }

    public int moves(int x, int y) {
        if (!isWithin(x, 0, now.length) || !isWithin(y, 0, now.breadth)) {
            return BAD;
        }
        if (now.sourceX == x && now.sourceY == y) {
            return STATE;
        }
        int before = now.sourceCode();
        past.add(Past.SOURCE, 0, now.sourceX, now.sourceY);
        now.sourceX = x;
        now.sourceY = y;
        return before;
    }

    public int undo() {
        if (past.size == 0) {
            return STATE;
        }
        past.takeBackIn(now);
        return past.size;
    }

    // ---- images

    public int mirror(int i, int j, int what) {
        if (!isImage(i, j)) {
            return NO;
        }
        switch (what) {
            case 0: return now.imageX(i);
            case 1: return now.imageY(j);
            case 2: return Math.abs(i) + Math.abs(j);
            case 3: return now.softPasses(i, j);
            default: return NO;
        }
    }

    public int path(int seat, int i, int j, int what) {
        if (!now.hasSeat(seat) || !isImage(i, j)) {
            return BAD;
        }
        int x = now.seatX[seat];
        int y = now.seatY[seat];
        int way = now.waySquared(i, j, x, y);
        switch (what) {
            case 0: return way;
            case 1: return timeOf(way);
            case 2: return strengthOf(now.swallows, i, j, way);
            case 3: return now.isHidden(i, j, x, y) ? 1 : 0;
            default: return BAD;
        }
    }

    public int heard(int seat, int k, int what) {
        if (!now.hasSeat(seat) || k < 0 || !isWithin(what, 0, 2)) {
            return BAD;
        }
        ear.hearAtSeat(now, seat);
        if (k >= ear.size) {
            return NONE;
        }
        switch (what) {
            case 0: return ear.times[k];
            case 1: return ear.strengths[k];
            default: return imageCode(ear.is[k], ear.js[k]);
        }
    }

    // ---- what is heard

    public int sound(int seat, int what) {
        if (!now.hasSeat(seat) || !isWithin(what, 0, 2)) {
            return BAD;
        }
        ear.hearAtSeat(now, seat);
        switch (what) {
            case 0: return ear.size;
            case 1: return ear.total;
            default: return ear.firstGap();
        }
    }

    public int early(int seat, int t, int what) {
        if (!now.hasSeat(seat) || !isWithin(t, 0, LATEST_EARLY) || !isWithin(what, 0, 1)) {
            return BAD;
        }
        ear.hearAtSeat(now, seat);
        return leastTerm(ear.strengthUpTo(t), ear.total, what);
    }

    public int fade(int seat, int p) {
        if (!now.hasSeat(seat) || !isWithin(p, 1, TENTHS - 1)) {
            return BAD;
        }
        ear.hearAtSeat(now, seat);
        return ear.fadeTime(p);
    }

    public int best(int t) {
        if (!isWithin(t, 0, LATEST_EARLY)) {
            return BAD;
        }
        int bestSeat = NONE;
        long bestUpper = 0;
        long bestLower = 1;
        for (int seat = 0; seat < now.seats; seat++) {
            ear.hearAtSeat(now, seat);
            long upper = ear.strengthUpTo(t);
            long lower = Math.max(1, ear.total);
            if (bestSeat == NONE || upper * bestLower > bestUpper * lower) {
                bestSeat = seat;
                bestUpper = upper;
                bestLower = lower;
            }
        }
        return bestSeat;
    }

    public int odds(int x, int seat, int sound, int what) {
        if (!isWithin(x, 0, TENTHS) || !now.hasSeat(seat)
                || !isWithin(sound, 0, LOUDEST_ASKED) || !isWithin(what, 0, 1)) {
            return BAD;
        }
        ear.hearAtSeat(now, seat);
        int upper = 0;
        for (int deaf = 0; deaf < 1 << WALLS; deaf++) {
            if (ear.soundIfDeaf(now.swallows, deaf) >= sound) {
                upper += chanceOf(deaf, x);
            }
        }
        return leastTerm(upper, ALL_TENTHS, what);
    }

    // ---- where one sits

    public int sees(int i, int j, int time) {
        if (!isImage(i, j) || !isWithin(time, 0, LATEST_SEEN)) {
            return BAD;
        }
        return finder.addSeen(i, j, time) ? finder.seen : FULL;
    }

    public int forget() {
        int had = finder.seen;
        finder.seen = 0;
        return had;
    }

    public int unseen(int what) {
        if (!isWithin(what, 0, 1)) {
            return BAD;
        }
        finder.findPlaces(now);
        if (what == 0) {
            return finder.found;
        }
        return finder.found > 0 ? 100 * finder.placeX[0] + finder.placeY[0] : NONE;
    }

    public int listen() {
        finder.findPlaces(now);
        return finder.found > 1 ? finder.tellingImage(now) : NONE;
    }

    // ---- images of it

    public int keep(int image) {
        if (!isWithin(image, 0, MOST_KEPT - 1)) {
            return BAD;
        }
        kept[image].copyFrom(now);
        isKept[image] = true;
        return now.sourceCode();
    }

    public int back(int image) {
        if (!isWithin(image, 0, MOST_KEPT - 1)) {
            return BAD;
        }
        if (!isKept[image]) {
            return STATE;
        }
        // LENGTH, BREADTH and SEATS come along unchanged: only room() changes them, and it drops what was kept.
        now.copyFrom(kept[image]);
        past.size = 0;
        return now.sourceCode();
    }

    public int count(int what) {
        switch (what) {
            case 0: return now.length;
            case 1: return now.breadth;
            case 2: return now.sourceX;
            case 3: return now.sourceY;
            case 4: return now.seats;
            case 5: return now.curtains;
            case 6: return finder.seen;
            case 7: return text.size;
            case 8: return past.size;
            default: return BAD;
        }
    }

    private void dropKept() {
        for (int k = 0; k < MOST_KEPT; k++) {
            isKept[k] = false;
        }
    }

    // ---- plain arithmetic

    private static boolean isWithin(int number, int low, int high) {
        return number >= low && number <= high;
    }

    private static boolean isImage(int i, int j) {
        // The ranges come first: the least int has no absolute value.
        return isWithin(i, -MOST_ORDER, MOST_ORDER) && isWithin(j, -MOST_ORDER, MOST_ORDER)
                && Math.abs(i) + Math.abs(j) <= MOST_ORDER;
    }

    private static int imageCode(int i, int j) {
        return 100 * (i + MOST_ORDER) + j + MOST_ORDER;
    }

    /** Where what lies at a place along a side is seen in the k-th mirrored room. */
    private static int mirrored(int k, int side, int place) {
        return k * side + ((k & 1) == 0 ? place : side - place);
    }

    /** How often an IMAGE that is n rooms away has gone by the wall towards which n grows. */
    private static int farPasses(int n) {
        return n > 0 ? (n + 1) / 2 : -n / 2;
    }

    private static int passes(int wall, int i, int j) {
        switch (wall) {
            case WEST: return farPasses(-i);
            case EAST: return farPasses(i);
            case SOUTH: return farPasses(-j);
            default: return farPasses(j);
        }
    }

    private static int squares(int apartX, int apartY) {
        return apartX * apartX + apartY * apartY;
    }

    private static int timeOf(int waySquared) {
        int square = 100 * waySquared;
        int root = 0;
        for (int bit = TIMES / 2; bit > 0; bit = bit / 2) {
            int next = root + bit;
            if (next * next <= square) {
                root = next;
            }
        }
        return root;
    }

    private static int strengthOf(int[] swallows, int i, int j, int waySquared) {
        int strength = FULL_STRENGTH;
        for (int wall = WEST; wall <= NORTH; wall++) {
            int times = passes(wall, i, j);
            for (int n = 0; n < times; n++) {
                strength = strength * (TENTHS - swallows[wall]) / TENTHS;
            }
        }
        return strength / Math.max(1, waySquared + 1);
    }

    /** In ten-thousandths: just the walls of the set become deaf, each by x of 10. */
    private static int chanceOf(int deaf, int x) {
        int chance = 1;
        for (int wall = WEST; wall <= NORTH; wall++) {
            chance *= (deaf >> wall & 1) == 1 ? x : TENTHS - x;
        }
        return chance;
    }

    private static int leastTerm(int upper, int lower, int what) {
        if (upper <= 0 || lower <= 0) {
            // 0 by 1: what is the number itself.
            return what;
        }
        int divisor = commonDivisor(upper, lower);
        return (what == 0 ? upper : lower) / Math.max(1, divisor);
    }

    private static int commonDivisor(int a, int b) {
        int more = a;
        int less = b;
        // Euclid needs at most some 45 steps for ints.
        for (int step = 0; step < 64 && less != 0; step++) {
            int rest = more % less;
            more = less;
            less = rest;
        }
        return more;
    }

    /** THE ROOM, its SEATS and all that can be changed or kept. */
    private static final class Scene {
        int length;
        int breadth;
        int sourceX;
        int sourceY;
        int seats;
        int curtains;
        final int[] swallows;
        final int[] seatX;
        final int[] seatY;
        final int[] curtainX;
        final int[] curtainFrom;
        final int[] curtainTo;

        Scene() {
            swallows = new int[WALLS];
            seatX = new int[MOST_SEATS];
            seatY = new int[MOST_SEATS];
            curtainX = new int[MOST_CURTAINS];
            curtainFrom = new int[MOST_CURTAINS];
            curtainTo = new int[MOST_CURTAINS];
            beAsAtFirst();
        }

        void beAsAtFirst() {
            length = 10;
            breadth = 8;
            sourceX = 1;
            sourceY = 1;
            seats = 0;
            curtains = 0;
            Arrays.fill(swallows, 2);
        }

        void copyFrom(Scene other) {
            length = other.length;
            breadth = other.breadth;
            sourceX = other.sourceX;
            sourceY = other.sourceY;
            seats = other.seats;
            curtains = other.curtains;
            System.arraycopy(other.swallows, 0, swallows, 0, WALLS);
            System.arraycopy(other.seatX, 0, seatX, 0, MOST_SEATS);
            System.arraycopy(other.seatY, 0, seatY, 0, MOST_SEATS);
            System.arraycopy(other.curtainX, 0, curtainX, 0, MOST_CURTAINS);
            System.arraycopy(other.curtainFrom, 0, curtainFrom, 0, MOST_CURTAINS);
            System.arraycopy(other.curtainTo, 0, curtainTo, 0, MOST_CURTAINS);
        }

        boolean hasSeat(int seat) {
            return seat >= 0 && seat < seats;
        }

        boolean hasCurtain(int curtain) {
            return curtain >= 0 && curtain < curtains;
        }

        int sourceCode() {
            return 100 * sourceX + sourceY;
        }

        int imageX(int i) {
            return mirrored(i, length, sourceX);
        }

        int imageY(int j) {
            return mirrored(j, breadth, sourceY);
        }

        int softPasses(int i, int j) {
            int sum = 0;
            for (int wall = WEST; wall <= NORTH; wall++) {
                if (swallows[wall] > 0) {
                    sum += passes(wall, i, j);
                }
            }
            return sum;
        }

        int waySquared(int i, int j, int x, int y) {
            return squares(imageX(i) - x, imageY(j) - y);
        }

        boolean isHidden(int i, int j, int x, int y) {
            int fromX = imageX(i);
            int fromY = imageY(j);
            for (int curtain = 0; curtain < curtains; curtain++) {
                // An IMAGE lies at most MOST_ORDER rooms away, so no further mirror is between.
                for (int k = -MOST_ORDER; k <= MOST_ORDER; k++) {
                    int atX = mirrored(k, length, curtainX[curtain]);
                    int gone = Math.abs(atX - fromX);
                    int span = Math.abs(x - fromX);
                    boolean isBetween = atX > Math.min(fromX, x) && atX < Math.max(fromX, x);
                    if (isBetween && curtainMeets(curtain, fromY * span + (y - fromY) * gone, span)) {
                        return true;
                    }
                }
            }
            return false;
        }

        /** Whether y, being upper by span, lies on the CURTAIN once it is folded into THE ROOM. */
        private boolean curtainMeets(int curtain, int upper, int span) {
            int roomSpan = breadth * span;
            if (roomSpan <= 0) {
                return false;
            }
            int m = Math.floorDiv(upper, roomSpan);
            int above = upper - m * roomSpan;
            int folded = (m & 1) == 0 ? above : roomSpan - above;
            return folded >= curtainFrom[curtain] * span && folded <= curtainTo[curtain] * span;
        }
    }

    /** THE TEXT and its reading. */
    private static final class Text {
        static final int END = -1, NUMBER = -2, WRONG = -3;
        static final int BLANK = 32;

        final int[] letters;
        int size;
        private int next;
        private int token;
        private int start;
        private int number;

        Text() {
            letters = new int[MOST_LETTERS];
        }

        boolean append(int letter) {
            if (size >= MOST_LETTERS) {
                return false;
            }
            letters[size] = letter;
            size++;
            return true;
        }

        /** How many ITEMS there are, or -10 less FAULT. */
        int readInto(Scene scene) {
            scene.beAsAtFirst();
            next = 0;
            int items = 0;
            // Every ITEM has more than one letter.
            while (items <= MOST_LETTERS) {
                nextToken();
                if (token == END) {
                    return items;
                }
                if (!readItem(scene, items) || !readEnd()) {
                    return -10 - start;
                }
                items++;
            }
            return items;
        }

        private boolean readItem(Scene scene, int itemsBefore) {
            switch (token) {
                case 'r': return itemsBefore == 0 && readSides(scene);
                case 'w': return readSwallows(scene);
                case 'q': return readSource(scene);
                case 's': return scene.seats < MOST_SEATS && readSeat(scene);
                case 'c': return scene.curtains < MOST_CURTAINS && readCurtain(scene);
                default: return false;
            }
        }

        private boolean readSides(Scene scene) {
            if (!readNumber(LEAST_SIDE, MOST_SIDE)) {
                return false;
            }
            scene.length = number;
            if (!readNumber(LEAST_SIDE, MOST_SIDE)) {
                return false;
            }
            scene.breadth = number;
            return true;
        }

        private boolean readSwallows(Scene scene) {
            if (!readNumber(0, WALLS - 1)) {
                return false;
            }
            int wall = number;
            if (!readNumber(0, TENTHS)) {
                return false;
            }
            scene.swallows[wall] = number;
            return true;
        }

        private boolean readSource(Scene scene) {
            if (!readNumber(0, scene.length)) {
                return false;
            }
            scene.sourceX = number;
            if (!readNumber(0, scene.breadth)) {
                return false;
            }
            scene.sourceY = number;
            return true;
        }

        private boolean readSeat(Scene scene) {
            if (!readNumber(0, scene.length)) {
                return false;
            }
            scene.seatX[scene.seats] = number;
            if (!readNumber(0, scene.breadth)) {
                return false;
            }
            scene.seatY[scene.seats] = number;
            scene.seats++;
            return true;
        }

        private boolean readCurtain(Scene scene) {
            int curtain = scene.curtains;
            if (!readNumber(1, scene.length - 1)) {
                return false;
            }
            scene.curtainX[curtain] = number;
            if (!readNumber(0, scene.breadth)) {
                return false;
            }
            scene.curtainFrom[curtain] = number;
            if (!readNumber(number, scene.breadth)) {
                return false;
            }
            scene.curtainTo[curtain] = number;
            scene.curtains++;
            return true;
        }

        private boolean readNumber(int low, int high) {
            nextToken();
            return token == NUMBER && isWithin(number, low, high);
        }

        private boolean readEnd() {
            nextToken();
            return token == ';';
        }

        private void nextToken() {
            while (next < size && letters[next] == BLANK) {
                next++;
            }
            start = next;
            if (next >= size) {
                token = END;
            } else if (isFigure(letters[next])) {
                takeFigures();
            } else {
                token = letters[next];
                next++;
            }
        }

        private void takeFigures() {
            number = 0;
            while (next < size && isFigure(letters[next])) {
                // Held low, so that a long row of figures stays above 99 and does not wrap.
                number = Math.min(100, 10 * number + letters[next] - '0');
                next++;
            }
            boolean hasNeedlessZero = letters[start] == '0' && next - start > 1;
            token = number > 99 || hasNeedlessZero ? WRONG : NUMBER;
        }

        private static boolean isFigure(int letter) {
            return letter >= '0' && letter <= '9';
        }
    }

    /** What can be UNDONE, the latest last. */
    private static final class Past {
        static final int WALL = 0, CURTAIN = 1, SOURCE = 2;

        final int[] kinds;
        final int[] which;
        final int[] firsts;
        final int[] seconds;
        int size;

        Past() {
            kinds = new int[MOST_UNDONE];
            which = new int[MOST_UNDONE];
            firsts = new int[MOST_UNDONE];
            seconds = new int[MOST_UNDONE];
        }

        void add(int kind, int thing, int first, int second) {
            if (size >= MOST_UNDONE) {
                loseOldest();
            }
            kinds[size] = kind;
            which[size] = thing;
            firsts[size] = first;
            seconds[size] = second;
            size++;
        }

        private void loseOldest() {
            size = MOST_UNDONE - 1;
            System.arraycopy(kinds, 1, kinds, 0, size);
            System.arraycopy(which, 1, which, 0, size);
            System.arraycopy(firsts, 1, firsts, 0, size);
            System.arraycopy(seconds, 1, seconds, 0, size);
        }

        void takeBackIn(Scene scene) {
            if (size <= 0) {
                return;
            }
            size--;
            int thing = which[size];
            if (kinds[size] == WALL) {
                scene.swallows[thing] = firsts[size];
            } else if (kinds[size] == CURTAIN) {
                scene.curtainFrom[thing] = firsts[size];
                scene.curtainTo[thing] = seconds[size];
            } else {
                scene.sourceX = firsts[size];
                scene.sourceY = seconds[size];
            }
        }
    }

    /** What is HEARD at one place, in order. */
    private static final class Ear {
        final int[] is;
        final int[] js;
        final int[] ways;
        final int[] times;
        final int[] strengths;
        final int[] deafened;
        int size;
        int total;

        Ear() {
            is = new int[IMAGES];
            js = new int[IMAGES];
            ways = new int[IMAGES];
            times = new int[IMAGES];
            strengths = new int[IMAGES];
            deafened = new int[WALLS];
        }

        void hearAtSeat(Scene scene, int seat) {
            size = 0;
            total = 0;
            if (!scene.hasSeat(seat)) {
                return;
            }
            int x = scene.seatX[seat];
            int y = scene.seatY[seat];
            for (int i = -MOST_ORDER; i <= MOST_ORDER; i++) {
                int rest = MOST_ORDER - Math.abs(i);
                for (int j = -rest; j <= rest; j++) {
                    if (!scene.isHidden(i, j, x, y)) {
                        insert(scene, i, j, scene.waySquared(i, j, x, y));
                    }
                }
            }
        }

        /** IMAGES come by i, then j, so that equal TIMES stay in that order. */
        private void insert(Scene scene, int i, int j, int way) {
            if (size >= IMAGES) {
                return;
            }
            int time = timeOf(way);
            int slot = size;
            while (slot > 0 && times[slot - 1] > time) {
                shiftUp(slot);
                slot--;
            }
            is[slot] = i;
            js[slot] = j;
            ways[slot] = way;
            times[slot] = time;
            strengths[slot] = strengthOf(scene.swallows, i, j, way);
            total += strengths[slot];
            size++;
        }

        private void shiftUp(int slot) {
            is[slot] = is[slot - 1];
            js[slot] = js[slot - 1];
            ways[slot] = ways[slot - 1];
            times[slot] = times[slot - 1];
            strengths[slot] = strengths[slot - 1];
        }

        int firstGap() {
            return size > 1 ? times[1] - times[0] : NONE;
        }

        int strengthUpTo(int t) {
            int sum = 0;
            for (int k = 0; k < size && times[k] <= t; k++) {
                sum += strengths[k];
            }
            return sum;
        }

        int fadeTime(int p) {
            int left = total;
            for (int k = 0; k < size; k++) {
                left -= strengths[k];
                // If this holds ahead of the last of equal TIMES, it holds behind them, too.
                if (TENTHS * left <= p * total) {
                    return times[k];
                }
            }
            return NONE;
        }

        int soundIfDeaf(int[] swallows, int deaf) {
            for (int wall = WEST; wall <= NORTH; wall++) {
                deafened[wall] = (deaf >> wall & 1) == 1 ? TENTHS : swallows[wall];
            }
            int sum = 0;
            for (int k = 0; k < size; k++) {
                sum += strengthOf(deafened, is[k], js[k], ways[k]);
            }
            return sum;
        }
    }

    /** What was SEEN, and the places that it leaves. */
    private static final class Finder {
        static final int PLACES = (MOST_SIDE + 1) * (MOST_SIDE + 1);

        final int[] is;
        final int[] js;
        final int[] times;
        int seen;
        final int[] placeX;
        final int[] placeY;
        int found;
        final int[] toldBy;

        Finder() {
            is = new int[MOST_SEEN];
            js = new int[MOST_SEEN];
            times = new int[MOST_SEEN];
            placeX = new int[PLACES];
            placeY = new int[PLACES];
            toldBy = new int[TIMES];
        }

        boolean addSeen(int i, int j, int time) {
            if (seen >= MOST_SEEN) {
                return false;
            }
            is[seen] = i;
            js[seen] = j;
            times[seen] = time;
            seen++;
            return true;
        }

        void findPlaces(Scene scene) {
            found = 0;
            for (int x = 0; x <= scene.length; x++) {
                for (int y = 0; y <= scene.breadth; y++) {
                    if (found < PLACES && isPossible(scene, x, y)) {
                        placeX[found] = x;
                        placeY[found] = y;
                        found++;
                    }
                }
            }
        }

        private boolean isPossible(Scene scene, int x, int y) {
            for (int n = 0; n < seen; n++) {
                if (timeOf(scene.waySquared(is[n], js[n], x, y)) != times[n]) {
                    return false;
                }
            }
            return true;
        }

        int tellingImage(Scene scene) {
            int bestCode = NONE;
            int mostTimes = 0;
            int mark = 0;
            Arrays.fill(toldBy, 0);
            for (int i = -MOST_ORDER; i <= MOST_ORDER; i++) {
                int rest = MOST_ORDER - Math.abs(i);
                for (int j = -rest; j <= rest; j++) {
                    mark++;
                    int unlike = unlikeTimes(scene, i, j, mark);
                    if (unlike > mostTimes) {
                        mostTimes = unlike;
                        bestCode = imageCode(i, j);
                    }
                }
            }
            return bestCode;
        }

        /** The mark is another one for each IMAGE, so that the row need not be emptied between them. */
        private int unlikeTimes(Scene scene, int i, int j, int mark) {
            int fromX = scene.imageX(i);
            int fromY = scene.imageY(j);
            int unlike = 0;
            for (int n = 0; n < found; n++) {
                int time = timeOf(squares(fromX - placeX[n], fromY - placeY[n]));
                if (time < TIMES && toldBy[time] != mark) {
                    toldBy[time] = mark;
                    unlike++;
                }
            }
            return unlike;
        }
    }
}

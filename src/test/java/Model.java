import java.math.BigInteger;
import java.util.ArrayDeque;
import java.util.ArrayList;
import java.util.Deque;
import java.util.HashSet;
import java.util.List;
import java.util.Set;
import java.util.TreeSet;
import java.util.regex.Matcher;
import java.util.regex.Pattern;

/** The document told a second time, by other means than the class: whole states are kept, nothing is reused. */
final class Model {
    static final int BAD = -1, STATE = -2, FULL = -3, NONE = -9, NO = -1000000;

    /** Never changed once it is made, but while a text is read. */
    static final class State {
        int length = 10, breadth = 8, sx = 1, sy = 1;
        int[] walls = {2, 2, 2, 2};
        List<int[]> seats = new ArrayList<>();
        List<int[]> curtains = new ArrayList<>();

        State copy() {
            State s = new State();
            s.length = length;
            s.breadth = breadth;
            s.sx = sx;
            s.sy = sy;
            s.walls = walls.clone();
            for (int[] seat : seats) s.seats.add(seat.clone());
            for (int[] curtain : curtains) s.curtains.add(curtain.clone());
            return s;
        }
    }

    record Echo(int i, int j, int way, int time, int strength) { }

    private State state = new State();
    private String text = "";
    private final Deque<State> past = new ArrayDeque<>();
    private final State[] kept = new State[2];
    private final List<int[]> seen = new ArrayList<>();

    // ---- the text

    int type(int letter) {
        if (letter < 0 || letter > 255) return BAD;
        if (text.length() == 100) return FULL;
        text += (char) letter;
        return text.length();
    }

    int clear() {
        int had = text.length();
        text = "";
        return had;
    }

    private static final Pattern TOKEN = Pattern.compile("[0-9]+|[^ ]", Pattern.DOTALL);

    int room() {
        List<String> tokens = new ArrayList<>();
        List<Integer> places = new ArrayList<>();
        Matcher m = TOKEN.matcher(text);
        while (m.find()) {
            tokens.add(m.group());
            places.add(m.start());
        }
        tokens.add("");
        places.add(text.length());
        State s = new State();
        int items = 0;
        int at = 0;
        while (!tokens.get(at).isEmpty()) {
            String kind = tokens.get(at);
            boolean fits = switch (kind) {
                case "r" -> items == 0;
                case "w", "q" -> true;
                case "s" -> s.seats.size() < 4;
                case "c" -> s.curtains.size() < 3;
                default -> false;
            };
            if (!fits) return -10 - places.get(at);
            at++;
            int wanted = kind.equals("c") ? 3 : 2;
            int[] numbers = new int[wanted];
            for (int n = 0; n < wanted; n++, at++) {
                String token = tokens.get(at);
                if (!token.matches("0|[1-9][0-9]?")) return -10 - places.get(at);
                numbers[n] = Integer.parseInt(token);
                if (!allowed(s, kind, n, numbers)) return -10 - places.get(at);
            }
            if (!tokens.get(at).equals(";")) return -10 - places.get(at);
            at++;
            items++;
            switch (kind) {
                case "r" -> { s.length = numbers[0]; s.breadth = numbers[1]; }
                case "w" -> s.walls[numbers[0]] = numbers[1];
                case "q" -> { s.sx = numbers[0]; s.sy = numbers[1]; }
                case "s" -> s.seats.add(numbers);
                default -> s.curtains.add(numbers);
            }
        }
        state = s;
        text = "";
        past.clear();
        seen.clear();
        kept[0] = null;
        kept[1] = null;
        return items;
    }

    private static boolean allowed(State s, String kind, int n, int[] numbers) {
        int v = numbers[n];
        return switch (kind + n) {
            case "r0", "r1" -> v >= 2 && v <= 20;
            case "w0" -> v <= 3;
            case "w1" -> v <= 10;
            case "q0", "s0" -> v <= s.length;
            case "q1", "s1", "c1" -> v <= s.breadth;
            case "c0" -> v >= 1 && v < s.length;
            default -> v >= numbers[1] && v <= s.breadth;
        };
    }

    int wall(int wall) {
        return wall < 0 || wall > 3 ? BAD : state.walls[wall];
    }

    private boolean noSeat(int seat) {
        return seat < 0 || seat >= state.seats.size();
    }

    private boolean noCurtain(int curtain) {
        return curtain < 0 || curtain >= state.curtains.size();
    }

    private static boolean not(int v, int low, int high) {
        return v < low || v > high;
    }

    int seat(int seat, int what) {
        return noSeat(seat) || not(what, 0, 1) ? BAD : state.seats.get(seat)[what];
    }

    int curtain(int curtain, int what) {
        return noCurtain(curtain) || not(what, 0, 2) ? BAD : state.curtains.get(curtain)[what];
    }

    // ---- what is done

    private State changed() {
        past.addLast(state);
        if (past.size() > 10) past.removeFirst();
        state = state.copy();
        return state;
    }

    int pads(int wall, int a) {
        if (not(wall, 0, 3) || not(a, 0, 10)) return BAD;
        int old = state.walls[wall];
        if (old == a) return STATE;
        changed().walls[wall] = a;
        return old;
    }

    int draws(int curtain, int from, int to) {
        if (noCurtain(curtain) || from < 0 || to < from || to > state.breadth) return BAD;
        int[] old = state.curtains.get(curtain);
        if (old[1] == from && old[2] == to) return STATE;
        changed().curtains.set(curtain, new int[] {old[0], from, to});
        return 100 * old[1] + old[2];
    }

    int moves(int x, int y) {
        if (not(x, 0, state.length) || not(y, 0, state.breadth)) return BAD;
        int old = 100 * state.sx + state.sy;
        if (old == 100 * x + y) return STATE;
        State s = changed();
        s.sx = x;
        s.sy = y;
        return old;
    }

    int undo() {
        if (past.isEmpty()) return STATE;
        state = past.removeLast();
        return past.size();
    }

    // ---- images

    private static boolean noImage(int i, int j) {
        return Math.abs((long) i) + Math.abs((long) j) > 3;
    }

    /** By mirroring step after step at the wall that comes next. */
    private static int image(int n, int side, int source) {
        int at = source;
        for (int line = 1; line <= n; line++) {
            // The walls towards which it goes, each seen in those before.
            at = 2 * (line * side) - at;
        }
        for (int line = 0; line > n; line--) {
            at = 2 * (line * side) - at;
        }
        return at;
    }

    /** The lines between rooms that are gone by: even ones are the wall at 0, odd ones the other. */
    private static int[] lines(int n) {
        int[] gone = new int[2];
        for (int line = 1; line <= n; line++) gone[line & 1]++;
        for (int line = 0; line > n; line--) gone[line & 1]++;
        return gone;
    }

    private static int[] walls(int i, int j) {
        return new int[] {lines(i)[0], lines(i)[1], lines(j)[0], lines(j)[1]};
    }

    int mirror(int i, int j, int what) {
        if (noImage(i, j) || not(what, 0, 3)) return NO;
        if (what == 0) return image(i, state.length, state.sx);
        if (what == 1) return image(j, state.breadth, state.sy);
        if (what == 2) return Math.abs(i) + Math.abs(j);
        int sum = 0;
        for (int w = 0; w < 4; w++) {
            if (state.walls[w] != 0) sum += walls(i, j)[w];
        }
        return sum;
    }

    private Echo echo(int[] swallows, int i, int j, int x, int y) {
        int dx = image(i, state.length, state.sx) - x;
        int dy = image(j, state.breadth, state.sy) - y;
        int way = dx * dx + dy * dy;
        int time = BigInteger.valueOf(100L * way).sqrt().intValueExact();
        long strength = 1000000;
        for (int w = 0; w < 4; w++) {
            for (int n = 0; n < walls(i, j)[w]; n++) strength = strength * (10 - swallows[w]) / 10;
        }
        return new Echo(i, j, way, time, (int) (strength / (way + 1L)));
    }

    private boolean hidden(int i, int j, int x, int y) {
        long ix = image(i, state.length, state.sx);
        long iy = image(j, state.breadth, state.sy);
        for (int[] c : state.curtains) {
            for (long at = Math.min(ix, x) + 1; at < Math.max(ix, x); at++) {
                // Is a mirrored curtain at this whole x? Fold it back and look.
                long back = Math.floorMod(at, 2L * state.length);
                if (back > state.length) back = 2L * state.length - back;
                if (back != c[0]) continue;
                // y = upper / lower, folded by a period of two rooms
                long lower = x - ix;
                long upper = iy * lower + (y - iy) * (at - ix);
                if (lower < 0) {
                    lower = -lower;
                    upper = -upper;
                }
                long two = 2L * state.breadth * lower;
                long folded = Math.floorMod(upper, two);
                if (2 * folded > two) folded = two - folded;
                if (folded >= c[1] * lower && folded <= c[2] * lower) return true;
            }
        }
        return false;
    }

    int path(int seat, int i, int j, int what) {
        if (noSeat(seat) || noImage(i, j) || not(what, 0, 3)) return BAD;
        int[] at = state.seats.get(seat);
        Echo e = echo(state.walls, i, j, at[0], at[1]);
        if (what == 0) return e.way();
        if (what == 1) return e.time();
        if (what == 2) return e.strength();
        return hidden(i, j, at[0], at[1]) ? 1 : 0;
    }

    private List<Echo> all(int[] swallows, int x, int y) {
        List<Echo> echoes = new ArrayList<>();
        for (int j = 3; j >= -3; j--) {
            for (int i = 3; i >= -3; i--) {
                if (!noImage(i, j)) echoes.add(echo(swallows, i, j, x, y));
            }
        }
        echoes.sort((a, b) -> a.time() != b.time() ? a.time() - b.time() : a.i() != b.i() ? a.i() - b.i() : a.j() - b.j());
        return echoes;
    }

    private List<Echo> heardAt(int[] swallows, int seat) {
        int[] at = state.seats.get(seat);
        List<Echo> echoes = all(swallows, at[0], at[1]);
        echoes.removeIf(e -> hidden(e.i(), e.j(), at[0], at[1]));
        return echoes;
    }

    int heard(int seat, int k, int what) {
        if (noSeat(seat) || k < 0 || not(what, 0, 2)) return BAD;
        List<Echo> echoes = heardAt(state.walls, seat);
        if (k >= echoes.size()) return NONE;
        Echo e = echoes.get(k);
        return what == 0 ? e.time() : what == 1 ? e.strength() : 100 * (e.i() + 3) + e.j() + 3;
    }

    // ---- what is heard

    private static int together(List<Echo> echoes) {
        return echoes.stream().mapToInt(Echo::strength).sum();
    }

    int sound(int seat, int what) {
        if (noSeat(seat) || not(what, 0, 2)) return BAD;
        List<Echo> echoes = heardAt(state.walls, seat);
        if (what == 0) return echoes.size();
        if (what == 1) return together(echoes);
        return echoes.size() < 2 ? NONE : echoes.get(1).time() - echoes.get(0).time();
    }

    private static int[] fraction(long upper, long lower) {
        if (lower == 0) return new int[] {0, 1};
        BigInteger g = BigInteger.valueOf(upper).gcd(BigInteger.valueOf(lower));
        return new int[] {(int) (upper / g.longValue()), (int) (lower / g.longValue())};
    }

    private int[] earlyAt(int seat, int t) {
        List<Echo> echoes = heardAt(state.walls, seat);
        int soon = echoes.stream().filter(e -> e.time() <= t).mapToInt(Echo::strength).sum();
        return fraction(soon, together(echoes));
    }

    int early(int seat, int t, int what) {
        return noSeat(seat) || not(t, 0, 999) || not(what, 0, 1) ? BAD : earlyAt(seat, t)[what];
    }

    int fade(int seat, int p) {
        if (noSeat(seat) || not(p, 1, 9)) return BAD;
        List<Echo> echoes = heardAt(state.walls, seat);
        Set<Integer> times = new TreeSet<>();
        echoes.forEach(e -> times.add(e.time()));
        for (int time : times) {
            int left = echoes.stream().filter(e -> e.time() > time).mapToInt(Echo::strength).sum();
            if (10L * left <= (long) p * together(echoes)) return time;
        }
        return NONE;
    }

    int best(int t) {
        if (not(t, 0, 999)) return BAD;
        int best = NONE;
        for (int seat = state.seats.size() - 1; seat >= 0; seat--) {
            if (best == NONE) {
                best = seat;
            } else {
                int[] a = earlyAt(seat, t);
                int[] b = earlyAt(best, t);
                if ((long) a[0] * b[1] >= (long) b[0] * a[1]) best = seat;
            }
        }
        return best;
    }

    int odds(int x, int seat, int sound, int what) {
        if (not(x, 0, 10) || noSeat(seat) || not(sound, 0, 999999) || not(what, 0, 1)) return BAD;
        return fraction(weight(x, seat, sound, 0, state.walls), 10000)[what];
    }

    private long weight(int x, int seat, int sound, int wall, int[] swallows) {
        if (wall == 4) return together(heardAt(swallows, seat)) >= sound ? 1 : 0;
        int[] deaf = swallows.clone();
        deaf[wall] = 10;
        return x * weight(x, seat, sound, wall + 1, deaf) + (10 - x) * weight(x, seat, sound, wall + 1, swallows);
    }

    // ---- where one sits

    int sees(int i, int j, int time) {
        if (noImage(i, j) || not(time, 0, 9999)) return BAD;
        if (seen.size() == 4) return FULL;
        seen.add(new int[] {i, j, time});
        return seen.size();
    }

    int forget() {
        int had = seen.size();
        seen.clear();
        return had;
    }

    private List<int[]> places() {
        List<int[]> places = new ArrayList<>();
        for (int x = 0; x <= state.length; x++) {
            for (int y = 0; y <= state.breadth; y++) {
                boolean so = true;
                for (int[] s : seen) so &= echo(state.walls, s[0], s[1], x, y).time() == s[2];
                if (so) places.add(new int[] {x, y});
            }
        }
        return places;
    }

    int unseen(int what) {
        if (not(what, 0, 1)) return BAD;
        List<int[]> places = places();
        if (what == 0) return places.size();
        return places.stream().mapToInt(p -> 100 * p[0] + p[1]).min().orElse(NONE);
    }

    int listen() {
        List<int[]> places = places();
        if (places.size() <= 1) return NONE;
        int best = NONE;
        int most = -1;
        for (int i = -3; i <= 3; i++) {
            for (int j = -3; j <= 3; j++) {
                if (noImage(i, j)) continue;
                Set<Integer> times = new HashSet<>();
                for (int[] p : places) times.add(echo(state.walls, i, j, p[0], p[1]).time());
                if (times.size() > most) {
                    most = times.size();
                    best = 100 * (i + 3) + j + 3;
                }
            }
        }
        return best;
    }

    // ---- images of it

    int keep(int image) {
        if (not(image, 0, 1)) return BAD;
        kept[image] = state.copy();
        return 100 * state.sx + state.sy;
    }

    int back(int image) {
        if (not(image, 0, 1)) return BAD;
        if (kept[image] == null) return STATE;
        state = kept[image].copy();
        past.clear();
        return 100 * state.sx + state.sy;
    }

    int count(int what) {
        return switch (what) {
            case 0 -> state.length;
            case 1 -> state.breadth;
            case 2 -> state.sx;
            case 3 -> state.sy;
            case 4 -> state.seats.size();
            case 5 -> state.curtains.size();
            case 6 -> seen.size();
            case 7 -> text.length();
            case 8 -> past.size();
            default -> BAD;
        };
    }
}

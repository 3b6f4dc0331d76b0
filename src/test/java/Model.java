import java.math.BigInteger;
import java.util.ArrayList;
import java.util.HashMap;
import java.util.List;
import java.util.Map;
import java.util.TreeSet;
import java.util.regex.Matcher;
import java.util.regex.Pattern;

/**
 * The document told a second time, in another way and without care for speed: every person is an object, every answer
 * is worked out anew from what was told.
 */
final class Model {
    static final class Car {
        int place;
        char sort;
        int room;
        final List<Integer> inside = new ArrayList<>();
        int carried = 0;
        boolean used = false;

        int holds() {
            return sort == 'g' ? room / 2 : room;
        }
    }

    record Coming(int moment, int station, int people) { }

    record Event(int kind, int moment, int number) { }

    record Seen(int moment, int station, int many) { }

    /** What is behind each moment, and in all. */
    static final class Outcome {
        final int[][] place = new int[24][6];
        final int[][] inside = new int[24][6];
        final int[][] waits = new int[24][2];
        final int[] power = new int[24];
        final int[] over = new int[2];
        List<Car> cars = new ArrayList<>();
        int firstMoment = -1;
        int firstCar = -1;
        int left = 0;

        int come() {
            return over[0] + over[1];
        }

        int sum() {
            int sum = 0;
            for (int p : power) {
                sum += p;
            }
            return sum;
        }
    }

    private static final String ONE_CAR = "[a-x][osg][1-9]", ONE_COMING = "[a-x][bt][1-9]";
    private static final Pattern[] SHAPES = {
        Pattern.compile(ONE_CAR + "(;" + ONE_CAR + "){0,5}"),
        Pattern.compile(ONE_COMING + "(;" + ONE_COMING + "){0,11}"),
        Pattern.compile("[0-3]{1,24}")};
    private static final int[] LIMITS = {23, 47, 24};

    private final StringBuilder[] texts = {new StringBuilder(), new StringBuilder(), new StringBuilder()};
    private final List<Event> events = new ArrayList<>();
    private final List<Seen> sightings = new ArrayList<>();
    private final int[][] sheets = new int[4][];
    private final int[] forms = new int[4];
    private int finding = 0;

    private static boolean in(int n, int least, int most) {
        return n >= least && n <= most;
    }

    private boolean isCar(int c) {
        return c >= 0 && c < cars().size();
    }

    private int find(int number) {
        finding = number;
        return -10 - number;
    }

    // ---- texts

    int type(int t, int b) {
        if (!in(t, 0, 2) || !in(b, 0, 255)) {
            return -2;
        }
        if (texts[t].length() == LIMITS[t]) {
            return -4;
        }
        return texts[t].append((char) b).length();
    }

    int wipe(int t) {
        if (!in(t, 0, 2)) {
            return -2;
        }
        int n = texts[t].length();
        texts[t].setLength(0);
        return n;
    }

    int undo(int t) {
        if (!in(t, 0, 2)) {
            return -2;
        }
        if (texts[t].length() == 0) {
            return -3;
        }
        texts[t].setLength(texts[t].length() - 1);
        return texts[t].length();
    }

    /** The longest start that can still go on to a well one tells the first byte that cannot. */
    int fault(int t) {
        if (!in(t, 0, 2)) {
            return -2;
        }
        String whole = texts[t].toString();
        if (whole.isEmpty()) {
            return -1;
        }
        for (int n = 1; n <= whole.length(); n++) {
            if (!mayGoOn(t, whole.substring(0, n))) {
                return n - 1;
            }
        }
        return SHAPES[t].matcher(whole).matches() ? -1 : whole.length();
    }

    private static boolean mayGoOn(int t, String start) {
        Matcher m = SHAPES[t].matcher(start);
        if (!m.matches() && !m.hitEnd()) {
            return false;
        }
        if (t == 0) {
            TreeSet<Character> letters = new TreeSet<>();
            for (int i = 0; i < start.length(); i += 4) {
                if (!letters.add(start.charAt(i))) {
                    return false;
                }
            }
        }
        return true;
    }

    private String well(int t) {
        return fault(t) == -1 ? texts[t].toString() : "";
    }

    private List<Car> cars() {
        List<Car> all = new ArrayList<>();
        for (String s : well(0).split(";")) {
            if (!s.isEmpty()) {
                Car c = new Car();
                c.place = s.charAt(0) - 'a';
                c.sort = s.charAt(1);
                c.room = s.charAt(2) - '0';
                all.add(c);
            }
        }
        return all;
    }

    private List<Coming> comings() {
        List<Coming> all = new ArrayList<>();
        for (String s : well(1).split(";")) {
            if (!s.isEmpty()) {
                all.add(new Coming(s.charAt(0) - 'a', s.charAt(1) == 'b' ? 0 : 1, s.charAt(2) - '0'));
            }
        }
        return all;
    }

    private int[] speeds() {
        int[] speeds = new int[24];
        for (int m = 0; m < 24; m++) {
            speeds[m] = m < well(2).length() ? well(2).charAt(m) - '0' : 1;
        }
        return speeds;
    }

    int car(int c, int what) {
        if (!isCar(c) || !in(what, 0, 2)) {
            return -2;
        }
        Car car = cars().get(c);
        return what == 0 ? car.place : what == 1 ? "osg".indexOf(car.sort) : car.room;
    }

    int coming(int i, int what) {
        if (!in(i, 0, 11) || !in(what, 0, 2)) {
            return -2;
        }
        if (i >= comings().size()) {
            return -1;
        }
        Coming c = comings().get(i);
        return what == 0 ? c.moment : what == 1 ? c.station : c.people;
    }

    int speed(int m) {
        return in(m, 0, 23) ? speeds()[m] : -2;
    }

    int event(int kind, int moment, int number) {
        if (!in(kind, 0, 2) || !in(moment, 0, 23) || !in(number, 0, 5)) {
            return -2;
        }
        if (events.size() == 8) {
            return -4;
        }
        events.add(new Event(kind, moment, number));
        return events.size();
    }

    int back() {
        if (events.isEmpty()) {
            return -3;
        }
        events.remove(events.size() - 1);
        return events.size();
    }

    int read(int s) {
        if (!in(s, 0, 3)) {
            return -2;
        }
        if (sheets[s] == null) {
            return find(1);
        }
        int n = 0;
        while (3 * n + 3 <= sheets[s].length && event(sheets[s][3 * n], sheets[s][3 * n + 1], sheets[s][3 * n + 2]) > 0) {
            n++;
        }
        return n;
    }

    // ---- going through the moments

    static Outcome go(List<Car> cars, List<Coming> comings, int[] speeds, List<Event> events) {
        Outcome o = new Outcome();
        o.cars = cars;
        List<List<Integer>> waiting = List.of(new ArrayList<>(), new ArrayList<>());
        int people = 0;
        for (int m = 0; m < 24; m++) {
            for (Coming c : comings) {
                for (int i = 0; i < c.people && c.moment == m; i++) {
                    waiting.get(c.station).add(people++);
                }
            }
            int places = has(events, 1, m) ? 0 : speeds[m];
            for (int i = 0; i < places; i++) {
                o.power[m] += power(cars);
                for (Car c : cars) {
                    c.place = c.place == 23 ? 0 : c.place + 1;
                }
                for (int c = 0; c < cars.size(); c++) {
                    serve(o, c, m, true, waiting, events);
                }
            }
            for (int c = 0; c < cars.size() && places == 0; c++) {
                serve(o, c, m, false, waiting, events);
            }
            for (int c = 0; c < cars.size(); c++) {
                o.place[m][c] = cars.get(c).place;
                o.inside[m][c] = cars.get(c).inside.size();
            }
            o.waits[m][0] = waiting.get(0).size();
            o.waits[m][1] = waiting.get(1).size();
        }
        o.left = people - o.come();
        return o;
    }

    private static int power(List<Car> cars) {
        int net = 0;
        for (Car c : cars) {
            if (c.place >= 0 && c.place <= 11) {
                net += c.inside.size();
            } else {
                net -= c.inside.size();
            }
        }
        return net < 0 ? 0 : net;
    }

    private static boolean has(List<Event> events, int kind, int moment) {
        return events.stream().anyMatch(e -> e.kind == kind && e.moment == moment);
    }

    private static void serve(Outcome o, int number, int m, boolean came, List<List<Integer>> waiting, List<Event> events) {
        Car c = o.cars.get(number);
        if (c.place % 12 != 0) {
            return;
        }
        if (events.stream().anyMatch(e -> e.kind == 2 && e.number == number && e.moment <= m)) {
            return;
        }
        if (c.sort == 'o' && has(events, 0, m)) {
            return;
        }
        int station = c.place / 12;
        if (came) {
            while (!c.inside.isEmpty()) {
                c.inside.remove(0);
                c.carried++;
                o.over[station]++;
                if (o.firstMoment < 0) {
                    o.firstMoment = m;
                    o.firstCar = number;
                }
            }
        }
        while (!waiting.get(station).isEmpty() && c.inside.size() < c.holds()) {
            c.inside.add(waiting.get(station).remove(0));
            c.used = true;
        }
    }

    private Outcome told() {
        return go(cars(), comings(), speeds(), events);
    }

    int at(int m, int c, int what) {
        if (!in(m, 0, 23) || !isCar(c) || !in(what, 0, 1)) {
            return -2;
        }
        return what == 0 ? told().place[m][c] : told().inside[m][c];
    }

    int waits(int m, int what) {
        if (!in(m, 0, 23) || !in(what, 0, 3)) {
            return -2;
        }
        Outcome o = told();
        if (what < 2) {
            return o.waits[m][what];
        }
        return what == 3 ? o.power[m] : o.inside[m][0] + o.inside[m][1] + o.inside[m][2] + o.inside[m][3] + o.inside[m][4]
            + o.inside[m][5];
    }

    int over(int station) {
        return in(station, 0, 1) ? told().over[station] : -2;
    }

    int sum() {
        return told().sum();
    }

    int crowd(int station, int what) {
        if (!in(station, 0, 1) || !in(what, 0, 1)) {
            return -2;
        }
        Outcome o = told();
        for (int n = 108; n >= 0; n--) {
            for (int m = 0; m < 24; m++) {
                if (o.waits[m][station] == n) {
                    return what == 0 ? m : n;
                }
            }
        }
        throw new IllegalStateException();
    }

    int first(int what) {
        return what == 0 ? told().firstMoment : what == 1 ? told().firstCar : -2;
    }

    int carried(int c) {
        return isCar(c) ? told().cars.get(c).carried : -2;
    }

    int idle() {
        int bits = 0;
        List<Car> cars = told().cars;
        for (int c = 0; c < cars.size(); c++) {
            bits += cars.get(c).used ? 0 : 1 << c;
        }
        return bits;
    }

    int left() {
        return told().left;
    }

    // ---- plans

    int hang(int c, int what) {
        if (!isCar(c) || !in(what, 0, 1)) {
            return -2;
        }
        int[] come = new int[24];
        for (int p = 0; p < 24; p++) {
            List<Car> cars = cars();
            cars.get(c).place = p;
            boolean taken = false;
            for (int other = 0; other < cars.size(); other++) {
                taken |= other != c && cars.get(other).place == p;
            }
            come[p] = taken ? -1 : go(cars, comings(), speeds(), events).come();
        }
        return most(come, what);
    }

    private static int most(int[] of, int what) {
        int best = 0;
        for (int i = of.length - 1; i >= 0; i--) {
            best = of[i] >= of[best] ? i : best;
        }
        return what == 0 ? best : of[best];
    }

    private Outcome withPace(int m, int places) {
        int[] speeds = speeds();
        speeds[m] = places;
        return go(cars(), comings(), speeds, events);
    }

    int pace(int m, int what) {
        if (!in(m, 0, 23) || !in(what, 0, 1)) {
            return -2;
        }
        int[] come = new int[4];
        for (int p = 0; p < 4; p++) {
            come[p] = withPace(m, p).come();
        }
        return most(come, what);
    }

    int cheap(int m, int what) {
        if (!in(m, 0, 23) || !in(what, 0, 1)) {
            return -2;
        }
        int[] less = new int[4];
        for (int p = 0; p < 4; p++) {
            less[p] = -withPace(m, p).sum();
        }
        return what == 0 ? most(less, 0) : -most(less, 1);
    }

    private List<Event> without(int... numbers) {
        List<Event> kept = new ArrayList<>(events);
        for (int i = numbers.length - 1; i >= 0; i--) {
            kept.remove(numbers[i]);
        }
        return kept;
    }

    private boolean noneLeft(int... numbers) {
        return go(cars(), comings(), speeds(), without(numbers)).left == 0;
    }

    int spare(int i) {
        if (!in(i, -1, 1)) {
            return -2;
        }
        int[] row = spareRow();
        if (row == null) {
            return -1;
        }
        return i == -1 ? row.length : i < row.length ? row[i] : -1;
    }

    private int[] spareRow() {
        if (noneLeft()) {
            return new int[0];
        }
        for (int a = 0; a < events.size(); a++) {
            if (noneLeft(a)) {
                return new int[] {a};
            }
        }
        for (int a = 0; a < events.size(); a++) {
            for (int b = a + 1; b < events.size(); b++) {
                if (noneLeft(a, b)) {
                    return new int[] {a, b};
                }
            }
        }
        return null;
    }

    // ---- seen, chance, years

    int seen(int m, int station, int many) {
        if (!in(m, 0, 23) || !in(station, 0, 1) || !in(many, 0, 108)) {
            return -2;
        }
        if (sightings.size() == 8) {
            return -4;
        }
        sightings.add(new Seen(m, station, many));
        return sightings.size();
    }

    int forget() {
        int n = sightings.size();
        sightings.clear();
        return n;
    }

    private boolean asSeen(Outcome o) {
        return sightings.stream().allMatch(s -> o.waits[s.moment][s.station] == s.many);
    }

    int never() {
        int bits = 0;
        for (int i = 0; i < events.size(); i++) {
            bits += asSeen(go(cars(), comings(), speeds(), without(i))) ? 1 << i : 0;
        }
        return bits;
    }

    private Outcome withRoom(int c, int room) {
        List<Car> cars = cars();
        cars.get(c).room = room;
        return go(cars, comings(), speeds(), events);
    }

    int was(int c, int what) {
        if (!isCar(c) || !in(what, 0, 1)) {
            return -2;
        }
        int bits = 0;
        for (int room = 1; room <= 9 && what == 0; room++) {
            bits += asSeen(withRoom(c, room)) ? 1 << room : 0;
        }
        for (int sort = 0; sort < 3 && what == 1; sort++) {
            List<Car> cars = cars();
            cars.get(c).sort = "osg".charAt(sort);
            bits += asSeen(go(cars, comings(), speeds(), events)) ? 1 << sort : 0;
        }
        return bits;
    }

    int ask(int c) {
        if (!isCar(c)) {
            return -2;
        }
        int[] less = new int[24];
        for (int m = 0; m < 24; m++) {
            Map<String, Integer> groups = new HashMap<>();
            for (int room = 1; room <= 9; room++) {
                Outcome o = withRoom(c, room);
                if (asSeen(o)) {
                    groups.merge(o.waits[m][0] + "/" + o.waits[m][1], 1, Integer::sum);
                }
            }
            less[m] = -groups.values().stream().max(Integer::compare).orElse(0);
        }
        return most(less, 0);
    }

    long chance(int c, int m, int what) {
        if (!in(c, 0, 16) || !in(m, 0, 23) || !in(what, 0, 1)) {
            return Long.MIN_VALUE + 2;
        }
        BigInteger above = shares(c, m, 0, new ArrayList<>());
        BigInteger below = BigInteger.valueOf(16).pow(events.size());
        BigInteger divisor = above.gcd(below);
        return (what == 0 ? above : below).divide(divisor).longValueExact();
    }

    private BigInteger shares(int c, int m, int i, List<Event> kept) {
        if (i == events.size()) {
            int[] waits = go(cars(), comings(), speeds(), kept).waits[m];
            return waits[0] + waits[1] == 0 ? BigInteger.ONE : BigInteger.ZERO;
        }
        List<Event> more = new ArrayList<>(kept);
        more.add(events.get(i));
        return shares(c, m, i + 1, more).multiply(BigInteger.valueOf(c))
            .add(shares(c, m, i + 1, kept).multiply(BigInteger.valueOf(16 - c)));
    }

    int years(int seed, int n, int what) {
        if (!in(n, 0, 24) || !in(what, 0, 1)) {
            return -2;
        }
        int[] speeds = new int[24];
        BigInteger lot = BigInteger.valueOf(seed);
        for (int m = 0; m < 24; m++) {
            lot = lot.multiply(BigInteger.valueOf(1103515245)).add(BigInteger.valueOf(12345)).mod(BigInteger.ONE.shiftLeft(32));
            speeds[m] = m < n ? lot.shiftRight(16).mod(BigInteger.valueOf(4)).intValue() : 1;
        }
        Outcome o = go(cars(), comings(), speeds, events);
        return what == 0 ? o.come() : o.sum();
    }

    // ---- sheets

    int sheet(int s, int form, int n) {
        if (!in(s, 0, 3) || !in(form, 0, 2) || n > 60) {
            return -2;
        }
        if (n < 0) {
            return find(5);
        }
        sheets[s] = new int[n];
        forms[s] = form;
        return n;
    }

    int lose(int s) {
        if (!in(s, 0, 3)) {
            return -2;
        }
        if (sheets[s] == null) {
            return find(1);
        }
        int n = sheets[s].length;
        sheets[s] = null;
        return n;
    }

    private int wrong(int s, int form, int i) {
        return sheets[s] == null ? 1 : forms[s] != form ? 3 : i < 0 || i >= sheets[s].length ? 2 : 0;
    }

    private static int cut(int form, int v) {
        return form == 0 ? (byte) v : form == 1 ? (short) v : v;
    }

    int put(int s, int form, int i, int v) {
        if (!in(s, 0, 3) || !in(form, 0, 2)) {
            return -2;
        }
        if (wrong(s, form, i) != 0) {
            return find(wrong(s, form, i));
        }
        sheets[s][i] = cut(form, v);
        return 1;
    }

    int get(int s, int form, int i) {
        if (!in(s, 0, 3) || !in(form, 0, 2)) {
            return Integer.MIN_VALUE;
        }
        if (wrong(s, form, i) != 0) {
            find(wrong(s, form, i));
            return Integer.MIN_VALUE;
        }
        return sheets[s][i];
    }

    int copy(int s, int i, int t, int j, int n) {
        if (!in(s, 0, 3) || !in(t, 0, 3)) {
            return -2;
        }
        if (sheets[s] == null || sheets[t] == null) {
            return find(1);
        }
        if (forms[s] != forms[t]) {
            return find(4);
        }
        if (i < 0 || j < 0 || n < 0 || (long) i + n > sheets[s].length || (long) j + n > sheets[t].length) {
            return find(2);
        }
        int[] before = sheets[s].clone();
        for (int k = 0; k < n; k++) {
            sheets[t][j + k] = before[i + k];
        }
        return 1;
    }

    int write(int station, int s) {
        if (!in(station, 0, 1) || !in(s, 0, 3)) {
            return -2;
        }
        if (sheets[s] == null) {
            return find(1);
        }
        Outcome o = told();
        int n = 0;
        while (n < 24 && n < sheets[s].length) {
            sheets[s][n] = cut(forms[s], o.waits[n][station]);
            n++;
        }
        return n;
    }

    int count(int what) {
        if (!in(what, 0, 8)) {
            return -2;
        }
        int[] all = {cars().size(), comings().size(), well(2).length(), texts[0].length(), texts[1].length(), texts[2].length(),
            events.size(), sightings.size(), finding};
        return all[what];
    }
}

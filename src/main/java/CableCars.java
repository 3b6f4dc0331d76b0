import java.util.Arrays;

/** A cable car: a rope in a loop, cars on it, people who come to its two stations and wait. */
public final class CableCars {
    public static final int NONE = -1, BAD = -2, NOT = -3, FULL = -4;

    private static final int PLACES = 24, TOP_PLACE = 12;
    private static final int MOMENTS = 24, LAST = 23;
    private static final int STATIONS = 2, BOTTOM = 0, TOP = 1;

    private static final int MOST_CARS = 6, CAR_BYTES = 23;
    private static final int MOST_COMINGS = 12, COMING_BYTES = 47;
    private static final int SPEED_BYTES = 24, FASTEST = 3, LATER_SPEED = 1;
    private static final int MOST_EVENTS = 8, ALL_EVENTS = 255, MOST_SPARED = 2;
    private static final int MOST_SEEN = 8, MOST_PEOPLE = 108;
    private static final int MOST_ROOM = 9;
    private static final int MOST_ITEMS = 60;

    private static final int OPEN = 0, GOODS = 2, LAST_SORT = 2;
    private static final int GUST = 0, STOP = 1, JAM = 2;
    private static final int BYTES = 0, SHORTS = 1, INTS = 2;
    private static final int NULL = 1, INDEX = 2, CAST = 3, STORE = 4, SIZE = 5;

    // rule 4 of LANGUAGE.md lists functions of Integer and Long, not their constants
    private static final int LEAST_INT = 1 << 31;
    private static final long LEAST_LONG = 1L << 63;

    private static final int[] DIGEST_MOMENTS = {0, 5, 12, 23};

    private final Text carText = new Text(CAR_BYTES);
    private final Text comingText = new Text(COMING_BYTES);
    private final Text speedText = new Text(SPEED_BYTES);
    private final Triples cars = new Triples("osg", MOST_CARS, true);
    private final Triples comings = new Triples("bt", MOST_COMINGS, false);
    private final Events events = new Events();
    private final Sightings sightings = new Sightings();
    private final Sheet sheet0 = new Sheet();
    private final Sheet sheet1 = new Sheet();
    private final Sheet sheet2 = new Sheet();
    private final Sheet sheet3 = new Sheet();
    private final Plan plan = new Plan();
    private final Ride toldRide = new Ride();
    private final Ride trial = new Ride();
    private final int[][] crowdByRoom = new int[MOST_ROOM + 1][MOMENTS];
    private int speedFault = NONE;
    private boolean stale = true;
    private int finding = 0;

    public CableCars() {
    }

    // ---- cars, comings, the speed, events

    public int type(int text, int b) {
        Text told = textOf(text);
        if (told == null || !within(b, 0, 255)) {
            return BAD;
        }
        if (!told.hasSpace()) {
            return FULL;
        }
        told.append(b);
        readAgain(text);
        return told.length;
    }

    public int wipe(int text) {
        Text told = textOf(text);
        if (told == null) {
            return BAD;
        }
        int had = told.length;
        told.length = 0;
        readAgain(text);
        return had;
    }

    public int undo(int text) {
        Text told = textOf(text);
        if (told == null) {
            return BAD;
        }
        if (told.length == 0) {
            return NOT;
        }
        told.length--;
        readAgain(text);
        return told.length;
    }

    public int fault(int text) {
        switch (text) {
            case 0:
                return cars.fault;
            case 1:
                return comings.fault;
            case 2:
                return speedFault;
            default:
                return BAD;
        }
    }

    public int car(int car, int what) {
        if (!isCar(car) || !within(what, 0, 2)) {
            return BAD;
        }
        return cars.part(car, what);
    }

    public int coming(int i, int what) {
        if (!within(i, 0, MOST_COMINGS - 1) || !within(what, 0, 2)) {
            return BAD;
        }
        return i < comings.size ? comings.part(i, what) : NONE;
    }

    public int speed(int moment) {
        return isMoment(moment) ? toldSpeed(moment) : BAD;
    }

    public int event(int kind, int moment, int number) {
        if (!events.mayBe(kind, moment, number)) {
            return BAD;
        }
        if (!events.hasSpace()) {
            return FULL;
        }
        events.append(kind, moment, number);
        stale = true;
        return events.size;
    }

    public int back() {
        if (events.size == 0) {
            return NOT;
        }
        events.size--;
        stale = true;
        return events.size;
    }

    public int read(int s) {
        Sheet from = sheetOf(s);
        if (from == null) {
            return BAD;
        }
        if (from.lost) {
            return found(NULL);
        }
        int taken = 0;
        for (int i = 0; i + 2 < from.size; i += 3) {
            if (event(from.items[i], from.items[i + 1], from.items[i + 2]) < 0) {
                break;
            }
            taken++;
        }
        return taken;
    }

    // ---- moments

    public int at(int moment, int car, int what) {
        if (!isMoment(moment) || !isCar(car) || !within(what, 0, 1)) {
            return BAD;
        }
        Ride ride = asTold();
        return what == 0 ? ride.placeBehind[car][moment] : ride.insideBehind[car][moment];
    }

    public int waits(int moment, int what) {
        if (!isMoment(moment) || !within(what, 0, 3)) {
            return BAD;
        }
        Ride ride = asTold();
        switch (what) {
            case 0:
                return ride.waitBehind[BOTTOM][moment];
            case 1:
                return ride.waitBehind[TOP][moment];
            case 2:
                return ride.allInside(moment);
            default:
                return ride.power[moment];
        }
    }

    public int over(int station) {
        return isStation(station) ? asTold().comeOver[station] : BAD;
    }

    public int sum() {
        return asTold().allPower();
    }

    public int crowd(int station, int what) {
        if (!isStation(station) || !within(what, 0, 1)) {
            return BAD;
        }
        int[] waiting = asTold().waitBehind[station];
        int fullest = 0;
        for (int moment = 1; moment < MOMENTS; moment++) {
            if (waiting[moment] > waiting[fullest]) {
                fullest = moment;
            }
        }
        return what == 0 ? fullest : waiting[fullest];
    }

    public int first(int what) {
        switch (what) {
            case 0:
                return asTold().firstMoment;
            case 1:
                return asTold().firstCar;
            default:
                return BAD;
        }
    }

    public int carried(int car) {
        return isCar(car) ? asTold().gotOut[car] : BAD;
    }

    public int idle() {
        return ((1 << cars.size) - 1) & ~asTold().usedCars;
    }

    public int left() {
        return leftBehind(asTold());
    }

    // ---- plans

    public int hang(int car, int what) {
        if (!isCar(car) || !within(what, 0, 1)) {
            return BAD;
        }
        planAsTold();
        int best = NONE;
        int most = NONE;
        for (int place = 0; place < PLACES; place++) {
            if (anotherHangsAt(place, car)) {
                continue;
            }
            plan.place[car] = place;
            trial.run(plan, LAST);
            if (trial.allOver() > most) {
                best = place;
                most = trial.allOver();
            }
        }
        return what == 0 ? best : most;
    }

    public int pace(int moment, int what) {
        if (!isMoment(moment) || !within(what, 0, 1)) {
            return BAD;
        }
        planAsTold();
        int best = NONE;
        int most = NONE;
        for (int places = 0; places <= FASTEST; places++) {
            plan.pace[moment] = places;
            trial.run(plan, LAST);
            if (trial.allOver() > most) {
                best = places;
                most = trial.allOver();
            }
        }
        return what == 0 ? best : most;
    }

    public int cheap(int moment, int what) {
        if (!isMoment(moment) || !within(what, 0, 1)) {
            return BAD;
        }
        planAsTold();
        int best = NONE;
        int least = NONE;
        for (int places = 0; places <= FASTEST; places++) {
            plan.pace[moment] = places;
            trial.run(plan, LAST);
            int power = trial.allPower();
            if (best == NONE || power < least) {
                best = places;
                least = power;
            }
        }
        return what == 0 ? best : least;
    }

    public int spare(int i) {
        if (!within(i, NONE, MOST_SPARED - 1)) {
            return BAD;
        }
        int spared = leastSpared();
        if (spared == NONE) {
            return NONE;
        }
        return i == NONE ? Integer.bitCount(spared) : numberOfBit(spared, i);
    }

    // ---- seen, chance, years

    public int seen(int moment, int station, int many) {
        if (!isMoment(moment) || !isStation(station) || !within(many, 0, MOST_PEOPLE)) {
            return BAD;
        }
        if (!sightings.hasSpace()) {
            return FULL;
        }
        sightings.append(moment, station, many);
        return sightings.size;
    }

    public int forget() {
        int had = sightings.size;
        sightings.size = 0;
        return had;
    }

    public int never() {
        planAsTold();
        int bits = 0;
        for (int i = 0; i < events.size; i++) {
            plan.takeEvents(events, ALL_EVENTS & ~(1 << i));
            if (comesOutAsSeen()) {
                bits |= 1 << i;
            }
        }
        return bits;
    }

    public int was(int car, int what) {
        if (!isCar(car) || !within(what, 0, 1)) {
            return BAD;
        }
        return what == 0 ? likelyRooms(car) : likelySorts(car);
    }

    public int ask(int car) {
        if (!isCar(car)) {
            return BAD;
        }
        noteCrowdsByRoom(car);
        int best = 0;
        int least = mostAlike(0);
        for (int moment = 1; moment < MOMENTS; moment++) {
            int alike = mostAlike(moment);
            if (alike < least) {
                best = moment;
                least = alike;
            }
        }
        return best;
    }

    public long chance(int c, int moment, int what) {
        if (!within(c, 0, 16) || !isMoment(moment) || !within(what, 0, 1)) {
            // the least long and 2 more, as the document asks where a long is answered
            return LEAST_LONG - BAD;
        }
        long above = sharesWithNobodyWaiting(c, moment);
        long below = 1L << (4 * events.size);
        if (above == 0) {
            return what == 0 ? 0 : 1;
        }
        // below is a power of two, so halving alone brings the lowest terms
        for (int i = 0; i < 4 * MOST_EVENTS && above % 2 == 0 && below > 1; i++) {
            above /= 2;
            below /= 2;
        }
        return what == 0 ? above : below;
    }

    public int years(int seed, int n, int what) {
        if (!within(n, 0, MOMENTS) || !within(what, 0, 1)) {
            return BAD;
        }
        planAsTold();
        int lot = seed;
        for (int moment = 0; moment < n; moment++) {
            lot = 1103515245 * lot + 12345;
            plan.pace[moment] = (lot >>> 16) % (FASTEST + 1);
        }
        for (int moment = n; moment < MOMENTS; moment++) {
            plan.pace[moment] = LATER_SPEED;
        }
        trial.run(plan, LAST);
        return what == 0 ? trial.allOver() : trial.allPower();
    }

    // ---- sheets

    public int sheet(int s, int form, int n) {
        Sheet made = sheetOf(s);
        if (made == null || !isForm(form) || n > MOST_ITEMS) {
            return BAD;
        }
        if (n < 0) {
            return found(SIZE);
        }
        made.renew(form, n);
        return n;
    }

    public int lose(int s) {
        Sheet had = sheetOf(s);
        if (had == null) {
            return BAD;
        }
        if (had.lost) {
            return found(NULL);
        }
        had.lost = true;
        return had.size;
    }

    public int put(int s, int form, int i, int v) {
        Sheet to = sheetOf(s);
        if (to == null || !isForm(form)) {
            return BAD;
        }
        int wrong = to.wrongWith(form, i);
        if (wrong != 0) {
            return found(wrong);
        }
        to.store(i, v);
        return 1;
    }

    public int get(int s, int form, int i) {
        Sheet from = sheetOf(s);
        if (from == null || !isForm(form)) {
            return LEAST_INT;
        }
        int wrong = from.wrongWith(form, i);
        if (wrong != 0) {
            finding = wrong;
            return LEAST_INT;
        }
        return from.items[i];
    }

    public int copy(int s, int i, int t, int j, int n) {
        Sheet from = sheetOf(s);
        Sheet to = sheetOf(t);
        if (from == null || to == null) {
            return BAD;
        }
        if (from.lost || to.lost) {
            return found(NULL);
        }
        if (from.form != to.form) {
            return found(STORE);
        }
        if (!from.hasRun(i, n) || !to.hasRun(j, n)) {
            return found(INDEX);
        }
        System.arraycopy(from.items, i, to.items, j, n);
        return 1;
    }

    public int write(int station, int s) {
        Sheet to = sheetOf(s);
        if (!isStation(station) || to == null) {
            return BAD;
        }
        if (to.lost) {
            return found(NULL);
        }
        int[] waiting = asTold().waitBehind[station];
        int n = Math.min(to.size, MOMENTS);
        for (int i = 0; i < n; i++) {
            to.store(i, waiting[i]);
        }
        return n;
    }

    public int count(int what) {
        switch (what) {
            case 0:
                return cars.size;
            case 1:
                return comings.size;
            case 2:
                return speedFault == NONE ? speedText.length : 0;
            case 3:
                return carText.length;
            case 4:
                return comingText.length;
            case 5:
                return speedText.length;
            case 6:
                return events.size;
            case 7:
                return sightings.size;
            case 8:
                return finding;
            default:
                return BAD;
        }
    }

    public long digest() {
        long h = digestTold(17);
        for (int car = 0; car < cars.size; car++) {
            for (int what = 0; what <= 2; what++) {
                h = mix(h, car(car, what));
            }
            for (int moment : DIGEST_MOMENTS) {
                h = mix(h, at(moment, car, 0));
                h = mix(h, at(moment, car, 1));
            }
            h = mix(h, carried(car));
            h = mix(h, hang(car, 0));
            h = mix(h, hang(car, 1));
            h = mix(h, was(car, 0));
            h = mix(h, was(car, 1));
            h = mix(h, ask(car));
        }
        for (int station = 0; station < STATIONS; station++) {
            h = mix(h, over(station));
            h = mix(h, crowd(station, 0));
            h = mix(h, crowd(station, 1));
        }
        h = mix(h, sum());
        h = mix(h, first(0));
        h = mix(h, first(1));
        h = mix(h, idle());
        h = mix(h, left());
        h = mix(h, pace(8, 0));
        h = mix(h, pace(8, 1));
        h = mix(h, cheap(8, 0));
        h = mix(h, cheap(8, 1));
        h = mix(h, chance(5, 17, 0));
        h = mix(h, chance(5, 17, 1));
        h = mix(h, spare(NONE));
        h = mix(h, spare(0));
        h = mix(h, never());
        h = mix(h, years(7, 18, 0));
        return mix(h, years(7, 18, 1));
    }

    private long digestTold(long start) {
        long h = start;
        for (int what = 0; what <= 7; what++) {
            h = mix(h, count(what));
        }
        for (int text = 0; text <= 2; text++) {
            h = mix(h, fault(text));
        }
        for (int i = 0; i < MOST_COMINGS; i++) {
            for (int what = 0; what <= 2; what++) {
                h = mix(h, coming(i, what));
            }
        }
        for (int moment = 0; moment < MOMENTS; moment++) {
            h = mix(h, speed(moment));
            for (int what = 0; what <= 3; what++) {
                h = mix(h, waits(moment, what));
            }
        }
        return h;
    }

    private static long mix(long h, long value) {
        return 31 * h + value;
    }

    // ---- what the acts share

    private static boolean within(int number, int least, int most) {
        return number >= least && number <= most;
    }

    private static boolean isMoment(int moment) {
        return within(moment, 0, LAST);
    }

    private static boolean isStation(int station) {
        return within(station, BOTTOM, TOP);
    }

    private static boolean isForm(int form) {
        return within(form, BYTES, INTS);
    }

    private boolean isCar(int car) {
        return within(car, 0, cars.size - 1);
    }

    private int found(int number) {
        finding = number;
        return -10 - number;
    }

    private Text textOf(int text) {
        switch (text) {
            case 0:
                return carText;
            case 1:
                return comingText;
            case 2:
                return speedText;
            default:
                return null;
        }
    }

    private Sheet sheetOf(int s) {
        switch (s) {
            case 0:
                return sheet0;
            case 1:
                return sheet1;
            case 2:
                return sheet2;
            case 3:
                return sheet3;
            default:
                return null;
        }
    }

    private void readAgain(int text) {
        if (text == 0) {
            cars.parse(carText);
        }
        if (text == 1) {
            comings.parse(comingText);
        }
        if (text == 2) {
            speedFault = faultOfSpeed();
        }
        stale = true;
    }

    private int faultOfSpeed() {
        for (int i = 0; i < speedText.length; i++) {
            if (!within(speedText.bytes[i], '0', '3')) {
                return i;
            }
        }
        return NONE;
    }

    private int toldSpeed(int moment) {
        if (speedFault != NONE || moment >= speedText.length) {
            return LATER_SPEED;
        }
        return speedText.bytes[moment] - '0';
    }

    private boolean anotherHangsAt(int place, int car) {
        for (int other = 0; other < cars.size; other++) {
            if (other != car && cars.letter[other] == place) {
                return true;
            }
        }
        return false;
    }

    private void planAsTold() {
        plan.takeCars(cars);
        plan.takeComings(comings);
        for (int moment = 0; moment < MOMENTS; moment++) {
            plan.pace[moment] = toldSpeed(moment);
        }
        plan.takeEvents(events, ALL_EVENTS);
    }

    /** The ride of what was told; it is gone through again only if something was told since. */
    private Ride asTold() {
        if (stale) {
            planAsTold();
            toldRide.run(plan, LAST);
            stale = false;
        }
        return toldRide;
    }

    private int leftBehind(Ride ride) {
        int come = 0;
        for (int i = 0; i < comings.size; i++) {
            come += comings.figure[i];
        }
        return come - ride.allOver();
    }

    /** The least row of fewest events without which nobody is left, as bits; NONE if there is none. */
    private int leastSpared() {
        planAsTold();
        if (nobodyLeftWithout(0)) {
            return 0;
        }
        for (int i = 0; i < events.size; i++) {
            if (nobodyLeftWithout(1 << i)) {
                return 1 << i;
            }
        }
        for (int i = 0; i < events.size; i++) {
            for (int j = i + 1; j < events.size; j++) {
                if (nobodyLeftWithout(1 << i | 1 << j)) {
                    return 1 << i | 1 << j;
                }
            }
        }
        return NONE;
    }

    private boolean nobodyLeftWithout(int spared) {
        plan.takeEvents(events, ALL_EVENTS & ~spared);
        trial.run(plan, LAST);
        return leftBehind(trial) == 0;
    }

    /** Which bit is the i-th (0 on) of those set; NONE if there are not so many. */
    private static int numberOfBit(int bits, int i) {
        int ahead = 0;
        for (int bit = 0; bit < MOST_EVENTS; bit++) {
            if ((bits >> bit & 1) == 1) {
                if (ahead == i) {
                    return bit;
                }
                ahead++;
            }
        }
        return NONE;
    }

    private boolean comesOutAsSeen() {
        trial.run(plan, LAST);
        return sightings.agreeWith(trial);
    }

    private int likelyRooms(int car) {
        planAsTold();
        int bits = 0;
        for (int room = 1; room <= MOST_ROOM; room++) {
            plan.room[car] = room;
            if (comesOutAsSeen()) {
                bits |= 1 << room;
            }
        }
        return bits;
    }

    private int likelySorts(int car) {
        planAsTold();
        int bits = 0;
        for (int sort = 0; sort <= LAST_SORT; sort++) {
            plan.sort[car] = sort;
            if (comesOutAsSeen()) {
                bits |= 1 << sort;
            }
        }
        return bits;
    }

    /** For each room: how many wait at both stations, as one number; NONE if it is none of ROOMS. */
    private void noteCrowdsByRoom(int car) {
        planAsTold();
        for (int room = 1; room <= MOST_ROOM; room++) {
            plan.room[car] = room;
            boolean likely = comesOutAsSeen();
            for (int moment = 0; moment < MOMENTS; moment++) {
                crowdByRoom[room][moment] = likely ? trial.crowdKey(moment) : NONE;
            }
        }
    }

    private int mostAlike(int moment) {
        int most = 0;
        for (int room = 1; room <= MOST_ROOM; room++) {
            int crowd = crowdByRoom[room][moment];
            int alike = 0;
            for (int other = 1; other <= MOST_ROOM; other++) {
                if (crowd != NONE && crowdByRoom[other][moment] == crowd) {
                    alike++;
                }
            }
            most = Math.max(most, alike);
        }
        return most;
    }

    /** How many of the 16 to the power of EVENTS equal shares leave nobody waiting. */
    private long sharesWithNobodyWaiting(int c, int moment) {
        planAsTold();
        long shares = 0;
        for (int kept = 0; kept < 1 << events.size; kept++) {
            long weight = sharesOf(kept, c);
            if (weight == 0) {
                continue;
            }
            plan.takeEvents(events, kept);
            trial.run(plan, moment);
            if (trial.crowdKey(moment) == 0) {
                shares += weight;
            }
        }
        return shares;
    }

    private long sharesOf(int kept, int c) {
        long weight = 1;
        for (int i = 0; i < events.size; i++) {
            weight *= (kept >> i & 1) == 1 ? c : 16 - c;
        }
        return weight;
    }

    /** A text that grows by bytes at its end. */
    private static final class Text {
        final int[] bytes = new int[COMING_BYTES];
        final int limit;
        int length = 0;

        Text(int limit) {
            this.limit = Math.min(limit, COMING_BYTES);
        }

        boolean hasSpace() {
            return length < limit;
        }

        void append(int b) {
            if (hasSpace()) {
                bytes[length] = b;
                length++;
            }
        }
    }

    /** Letter, sign and figure, with ; between such: what cars and comings are told in. */
    private static final class Triples {
        final String signs;
        final int most;
        final boolean lettersDiffer;
        final int[] letter = new int[MOST_COMINGS];
        final int[] sign = new int[MOST_COMINGS];
        final int[] figure = new int[MOST_COMINGS];
        int size = 0;
        int fault = NONE;

        Triples(String signs, int most, boolean lettersDiffer) {
            this.signs = signs;
            this.most = Math.min(most, MOST_COMINGS);
            this.lettersDiffer = lettersDiffer;
        }

        int part(int i, int what) {
            switch (what) {
                case 0:
                    return letter[i];
                case 1:
                    return sign[i];
                default:
                    return figure[i];
            }
        }

        void parse(Text text) {
            fault = faultIn(text);
            size = 0;
            if (fault != NONE) {
                return;
            }
            for (int i = 0; i + 2 < text.length && size < most; i += 4) {
                letter[size] = text.bytes[i] - 'a';
                sign[size] = signs.indexOf((char) text.bytes[i + 1]);
                figure[size] = text.bytes[i + 2] - '0';
                size++;
            }
        }

        private int faultIn(Text text) {
            for (int i = 0; i < text.length; i++) {
                if (!goesOn(text, i)) {
                    return i;
                }
            }
            return text.length == 0 || text.length % 4 == 3 ? NONE : text.length;
        }

        private boolean goesOn(Text text, int i) {
            int b = text.bytes[i];
            switch (i % 4) {
                case 0:
                    return i / 4 < most && within(b, 'a', 'x') && !(lettersDiffer && isTaken(text, i));
                case 1:
                    return signs.indexOf((char) b) >= 0;
                case 2:
                    return within(b, '1', '9');
                default:
                    return b == ';';
            }
        }

        private boolean isTaken(Text text, int i) {
            for (int ahead = 0; ahead < i; ahead += 4) {
                if (text.bytes[ahead] == text.bytes[i]) {
                    return true;
                }
            }
            return false;
        }
    }

    /** Gusts, stops and jams, in the order told. */
    private static final class Events {
        final int[] kind = new int[MOST_EVENTS];
        final int[] moment = new int[MOST_EVENTS];
        final int[] number = new int[MOST_EVENTS];
        int size = 0;

        boolean mayBe(int kind, int moment, int number) {
            return within(kind, GUST, JAM) && isMoment(moment) && within(number, 0, MOST_CARS - 1);
        }

        boolean hasSpace() {
            return size < MOST_EVENTS;
        }

        void append(int kind, int moment, int number) {
            if (hasSpace()) {
                this.kind[size] = kind;
                this.moment[size] = moment;
                this.number[size] = number;
                size++;
            }
        }
    }

    /** How many were seen to wait, when and where. */
    private static final class Sightings {
        final int[] moment = new int[MOST_SEEN];
        final int[] station = new int[MOST_SEEN];
        final int[] many = new int[MOST_SEEN];
        int size = 0;

        boolean hasSpace() {
            return size < MOST_SEEN;
        }

        void append(int moment, int station, int many) {
            if (hasSpace()) {
                this.moment[size] = moment;
                this.station[size] = station;
                this.many[size] = many;
                size++;
            }
        }

        boolean agreeWith(Ride ride) {
            for (int i = 0; i < size; i++) {
                if (ride.waitBehind[station[i]][moment[i]] != many[i]) {
                    return false;
                }
            }
            return true;
        }
    }

    /** All that a ride hangs on: what was told, perhaps with something else in its place. */
    private static final class Plan {
        int cars = 0;
        final int[] place = new int[MOST_CARS];
        final int[] sort = new int[MOST_CARS];
        final int[] room = new int[MOST_CARS];
        final int[] jammedFrom = new int[MOST_CARS];
        final int[][] arrivals = new int[STATIONS][MOMENTS];
        final int[] pace = new int[MOMENTS];
        final boolean[] gusty = new boolean[MOMENTS];
        final boolean[] stopped = new boolean[MOMENTS];

        void takeCars(Triples told) {
            cars = Math.min(told.size, MOST_CARS);
            for (int car = 0; car < cars; car++) {
                place[car] = told.letter[car];
                sort[car] = told.sign[car];
                room[car] = told.figure[car];
            }
        }

        void takeComings(Triples told) {
            Arrays.fill(arrivals[BOTTOM], 0);
            Arrays.fill(arrivals[TOP], 0);
            for (int i = 0; i < told.size; i++) {
                arrivals[told.sign[i]][told.letter[i]] += told.figure[i];
            }
        }

        /** Takes only those events whose bits are in kept. */
        void takeEvents(Events told, int kept) {
            for (int moment = 0; moment < MOMENTS; moment++) {
                gusty[moment] = false;
                stopped[moment] = false;
            }
            Arrays.fill(jammedFrom, MOMENTS);
            for (int i = 0; i < told.size; i++) {
                if ((kept >> i & 1) == 1) {
                    takeEvent(told.kind[i], told.moment[i], told.number[i]);
                }
            }
        }

        private void takeEvent(int kind, int moment, int number) {
            if (kind == GUST) {
                gusty[moment] = true;
            }
            if (kind == STOP) {
                stopped[moment] = true;
            }
            if (kind == JAM) {
                jammedFrom[number] = Math.min(jammedFrom[number], moment);
            }
        }

        int places(int moment) {
            return stopped[moment] ? 0 : pace[moment];
        }

        int roomIn(int car) {
            return sort[car] == GOODS ? room[car] / 2 : room[car];
        }

        boolean isClosed(int car, int moment) {
            return moment >= jammedFrom[car] || gusty[moment] && sort[car] == OPEN;
        }
    }

    /** One going through the moments by a plan, and what came of it. */
    private static final class Ride {
        final int[][] placeBehind = new int[MOST_CARS][MOMENTS];
        final int[][] insideBehind = new int[MOST_CARS][MOMENTS];
        final int[][] waitBehind = new int[STATIONS][MOMENTS];
        final int[] power = new int[MOMENTS];
        final int[] place = new int[MOST_CARS];
        final int[] inside = new int[MOST_CARS];
        final int[] gotOut = new int[MOST_CARS];
        final int[] waiting = new int[STATIONS];
        final int[] comeOver = new int[STATIONS];
        int cars = 0;
        int usedCars = 0;
        int firstMoment = NONE;
        int firstCar = NONE;

        /** Goes through the moments 0 to last; of later ones nothing that stands here holds. */
        void run(Plan plan, int last) {
            start(plan);
            for (int moment = 0; moment < MOMENTS && moment <= last; moment++) {
                waiting[BOTTOM] += plan.arrivals[BOTTOM][moment];
                waiting[TOP] += plan.arrivals[TOP][moment];
                int places = plan.places(moment);
                int taken = 0;
                for (int i = 0; i < places; i++) {
                    taken += goOn(plan, moment);
                }
                if (places == 0) {
                    stand(plan, moment);
                }
                power[moment] = taken;
                note(moment);
            }
        }

        int allInside(int moment) {
            int people = 0;
            for (int car = 0; car < cars; car++) {
                people += insideBehind[car][moment];
            }
            return people;
        }

        int allOver() {
            return comeOver[BOTTOM] + comeOver[TOP];
        }

        int allPower() {
            int all = 0;
            for (int moment = 0; moment < MOMENTS; moment++) {
                all += power[moment];
            }
            return all;
        }

        /** A number that is another one for every other pair of crowds, 0 if nobody waits. */
        int crowdKey(int moment) {
            return waitBehind[BOTTOM][moment] * (MOST_PEOPLE + 1) + waitBehind[TOP][moment];
        }

        private void start(Plan plan) {
            cars = plan.cars;
            for (int car = 0; car < cars; car++) {
                place[car] = plan.place[car];
                inside[car] = 0;
                gotOut[car] = 0;
            }
            for (int station = 0; station < STATIONS; station++) {
                waiting[station] = 0;
                comeOver[station] = 0;
            }
            usedCars = 0;
            firstMoment = NONE;
            firstCar = NONE;
        }

        /** The rope goes on by one place; answers the power that this takes. */
        private int goOn(Plan plan, int moment) {
            int load = 0;
            for (int car = 0; car < cars; car++) {
                load += place[car] < TOP_PLACE ? inside[car] : -inside[car];
                place[car] = (place[car] + 1) % PLACES;
                int station = stationAt(place[car]);
                if (station != NONE && !plan.isClosed(car, moment)) {
                    letOut(car, station, moment);
                    letIn(car, station, plan.roomIn(car));
                }
            }
            return Math.max(0, load);
        }

        private void stand(Plan plan, int moment) {
            for (int car = 0; car < cars; car++) {
                int station = stationAt(place[car]);
                if (station != NONE && !plan.isClosed(car, moment)) {
                    letIn(car, station, plan.roomIn(car) - inside[car]);
                }
            }
        }

        private void letOut(int car, int station, int moment) {
            if (inside[car] > 0 && firstMoment == NONE) {
                firstMoment = moment;
                firstCar = car;
            }
            comeOver[station] += inside[car];
            gotOut[car] += inside[car];
            inside[car] = 0;
        }

        private void letIn(int car, int station, int room) {
            int people = Math.min(waiting[station], room);
            if (people > 0) {
                waiting[station] -= people;
                inside[car] += people;
                usedCars |= 1 << car;
            }
        }

        private void note(int moment) {
            for (int car = 0; car < cars; car++) {
                placeBehind[car][moment] = place[car];
                insideBehind[car][moment] = inside[car];
            }
            waitBehind[BOTTOM][moment] = waiting[BOTTOM];
            waitBehind[TOP][moment] = waiting[TOP];
        }

        private static int stationAt(int place) {
            if (place == 0) {
                return BOTTOM;
            }
            return place == TOP_PLACE ? TOP : NONE;
        }
    }

    /** A row of items of one form, or lost. */
    private static final class Sheet {
        final int[] items = new int[MOST_ITEMS];
        boolean lost = true;
        int form = BYTES;
        int size = 0;

        void renew(int form, int n) {
            Arrays.fill(items, 0);
            this.form = form;
            size = Math.max(0, Math.min(n, MOST_ITEMS));
            lost = false;
        }

        /** The finding for one item treated as of a form; 0 if all is well. */
        int wrongWith(int asForm, int i) {
            if (lost) {
                return NULL;
            }
            if (asForm != form) {
                return CAST;
            }
            return hasRun(i, 1) ? 0 : INDEX;
        }

        boolean hasRun(int i, int n) {
            return i >= 0 && n >= 0 && i <= size && n <= size - i;
        }

        void store(int i, int v) {
            if (!hasRun(i, 1)) {
                return;
            }
            switch (form) {
                case BYTES:
                    items[i] = (byte) v;
                    break;
                case SHORTS:
                    items[i] = (short) v;
                    break;
                default:
                    items[i] = v;
                    break;
            }
        }
    }
}

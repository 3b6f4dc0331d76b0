import java.util.Random;

/** Random runs of calls: the class against the model of the document in Model.java. */
public final class OracleTest {
    private static final Due due = new Due("OracleTest");
    private static final int RUNS = 700, CALLS = 220, KINDS = 38;

    public static void main(String[] args) {
        int runs = args.length > 0 ? Integer.parseInt(args[0]) : RUNS;
        long start = args.length > 1 ? Long.parseLong(args[1]) : 0;
        for (long seed = start; seed < start + runs && !due.isWrong(); seed++) {
            new OracleTest(seed).run();
        }
        due.end();
    }

    private final long seed;
    private final Random random;
    private final CableCars x = new CableCars();
    private final Model y = new Model();

    private OracleTest(long seed) {
        this.seed = seed;
        this.random = new Random(seed);
    }

    private void run() {
        // most runs begin with something told, so that the answers are worth asking for
        if (random.nextInt(8) != 0) {
            tellCars();
            tellComings();
            tellSpeed();
            int n = random.nextInt(9);
            for (int i = 0; i < n; i++) {
                call(8);
            }
        }
        for (int i = 0; i < CALLS; i++) {
            step();
        }
    }

    private void step() {
        int dice = random.nextInt(100);
        if (dice == 0) {
            tellCars();
        } else if (dice == 1) {
            tellComings();
        } else if (dice == 2) {
            tellSpeed();
        } else if (dice == 3) {
            tellSeenAsItIs();
        } else if (dice == 4) {
            tellSheet();
        } else {
            int kind = random.nextInt(KINDS);
            // chance is by far the dearest in the model
            call(kind == 29 && random.nextInt(6) != 0 ? 12 : kind);
        }
    }

    private int number(int least, int most) {
        int dice = random.nextInt(40);
        if (dice == 0) {
            return random.nextInt();
        }
        if (dice == 1) {
            return most + 1 + random.nextInt(2);
        }
        if (dice == 2) {
            return least - 1 - random.nextInt(2);
        }
        return least + random.nextInt(most - least + 1);
    }

    private void typeAll(int text, String bytes) {
        same("wipe(" + text + ")", x.wipe(text), y.wipe(text));
        for (int i = 0; i < bytes.length(); i++) {
            same("type(" + text + ", " + (int) bytes.charAt(i) + ")", x.type(text, bytes.charAt(i)), y.type(text, bytes.charAt(i)));
        }
    }

    private String triples(int most, String signs) {
        StringBuilder b = new StringBuilder();
        int n = random.nextInt(most + 1);
        int spread = 1 + random.nextInt(24);
        for (int i = 0; i < n; i++) {
            b.append(i == 0 ? "" : ";").append((char) ('a' + (random.nextInt(spread) + i * 24 / most) % 24));
            b.append(signs.charAt(random.nextInt(signs.length()))).append((char) ('1' + random.nextInt(9)));
        }
        if (b.length() > 0 && random.nextInt(12) == 0) {
            b.setCharAt(random.nextInt(b.length()), (char) random.nextInt(256));
        }
        return b.toString();
    }

    private void tellCars() {
        typeAll(0, triples(6, "osg"));
    }

    private void tellComings() {
        typeAll(1, triples(12, "bt"));
    }

    private void tellSpeed() {
        StringBuilder b = new StringBuilder();
        int n = random.nextInt(25);
        for (int i = 0; i < n; i++) {
            b.append(random.nextInt(60) == 0 ? '4' : (char) ('0' + random.nextInt(4)));
        }
        typeAll(2, b.toString());
    }

    /** So that what was seen may come out so. */
    private void tellSeenAsItIs() {
        int moment = random.nextInt(24);
        int station = random.nextInt(2);
        int many = y.waits(moment, station);
        same("seen(" + moment + ", " + station + ", " + many + ")", x.seen(moment, station, many), y.seen(moment, station, many));
    }

    private void tellSheet() {
        int s = random.nextInt(4);
        int form = random.nextInt(3);
        int n = random.nextInt(30);
        same("sheet", x.sheet(s, form, n), y.sheet(s, form, n));
        for (int i = 0; i < n; i++) {
            int v = i % 3 == 0 ? number(0, 2) : i % 3 == 1 ? number(0, 23) : number(0, 5);
            same("put", x.put(s, form, i, v), y.put(s, form, i, v));
        }
        same("read", x.read(s), y.read(s));
    }

    private void same(String call, long got, long want) {
        due.is("seed " + seed + ": " + call, got, want);
    }

    private void call(int kind) {
        if (kind < 10) {
            callTexts(kind);
        } else if (kind < 20) {
            callMoments(kind);
        } else if (kind < 31) {
            callPlans(kind);
        } else {
            callSheets(kind);
        }
    }

    private void callTexts(int kind) {
        int a = number(0, 2);
        int b = number(0, 5);
        int m = number(0, 23);
        switch (kind) {
            case 0: {
                int letter = random.nextInt(4) == 0 ? number(0, 255) : "acxos;bt0139g".charAt(random.nextInt(13));
                same("type(" + a + ", " + letter + ")", x.type(a, letter), y.type(a, letter));
                break;
            }
            case 1:
                if (random.nextInt(8) == 0) {
                    same("wipe(" + a + ")", x.wipe(a), y.wipe(a));
                }
                break;
            case 2:
                same("undo(" + a + ")", x.undo(a), y.undo(a));
                break;
            case 3:
                same("fault(" + a + ")", x.fault(a), y.fault(a));
                break;
            case 4:
                same("car(" + b + ", " + a + ")", x.car(b, a), y.car(b, a));
                break;
            case 5: {
                int i = number(0, 11);
                same("coming(" + i + ", " + a + ")", x.coming(i, a), y.coming(i, a));
                break;
            }
            case 6:
                same("speed(" + m + ")", x.speed(m), y.speed(m));
                break;
            case 7:
                same("back()", x.back(), y.back());
                break;
            case 8:
                same("event(" + a + ", " + m + ", " + b + ")", x.event(a, m, b), y.event(a, m, b));
                break;
            default:
                same("read(" + b + ")", x.read(b), y.read(b));
                break;
        }
    }

    private void callMoments(int kind) {
        int m = number(0, 23);
        int c = number(0, 5);
        int what = number(0, 1);
        switch (kind) {
            case 10:
                same("at(" + m + ", " + c + ", " + what + ")", x.at(m, c, what), y.at(m, c, what));
                break;
            case 11:
            case 12: {
                int w = number(0, 3);
                same("waits(" + m + ", " + w + ")", x.waits(m, w), y.waits(m, w));
                break;
            }
            case 13:
                same("over(" + what + ")", x.over(what), y.over(what));
                break;
            case 14:
                same("sum()", x.sum(), y.sum());
                break;
            case 15:
                same("crowd(" + what + ", 0)", x.crowd(what, 0), y.crowd(what, 0));
                same("crowd(1, " + what + ")", x.crowd(1, what), y.crowd(1, what));
                break;
            case 16:
                same("first(" + what + ")", x.first(what), y.first(what));
                break;
            case 17:
                same("carried(" + c + ")", x.carried(c), y.carried(c));
                break;
            case 18:
                same("idle()", x.idle(), y.idle());
                break;
            default:
                same("left()", x.left(), y.left());
                break;
        }
    }

    private void callPlans(int kind) {
        int m = number(0, 23);
        int c = number(0, 5);
        int what = number(0, 1);
        switch (kind) {
            case 20:
                same("hang(" + c + ", " + what + ")", x.hang(c, what), y.hang(c, what));
                break;
            case 21:
                same("pace(" + m + ", " + what + ")", x.pace(m, what), y.pace(m, what));
                break;
            case 22:
                same("cheap(" + m + ", " + what + ")", x.cheap(m, what), y.cheap(m, what));
                break;
            case 23: {
                int i = number(-1, 1);
                same("spare(" + i + ")", x.spare(i), y.spare(i));
                break;
            }
            case 24: {
                int many = number(0, 108);
                if (random.nextInt(6) == 0) {
                    same("seen(" + m + ", " + what + ", " + many + ")", x.seen(m, what, many), y.seen(m, what, many));
                }
                break;
            }
            case 25:
                if (random.nextInt(3) == 0) {
                    same("forget()", x.forget(), y.forget());
                }
                break;
            case 26:
                same("never()", x.never(), y.never());
                break;
            case 27:
                same("was(" + c + ", " + what + ")", x.was(c, what), y.was(c, what));
                break;
            case 28:
                same("ask(" + c + ")", x.ask(c), y.ask(c));
                break;
            case 29: {
                int sixteenths = number(0, 16);
                same("chance(" + sixteenths + ", " + m + ", " + what + ")", x.chance(sixteenths, m, what),
                    y.chance(sixteenths, m, what));
                break;
            }
            default: {
                int s = random.nextInt();
                int n = number(0, 24);
                same("years(" + s + ", " + n + ", " + what + ")", x.years(s, n, what), y.years(s, n, what));
                break;
            }
        }
    }

    private void callSheets(int kind) {
        int s = number(0, 3);
        int t = number(0, 3);
        int form = number(0, 2);
        int i = number(0, 9);
        int j = number(0, 9);
        switch (kind) {
            case 31: {
                int n = random.nextInt(3) == 0 ? number(0, 60) : number(5, 15);
                same("sheet(" + s + ", " + form + ", " + n + ")", x.sheet(s, form, n), y.sheet(s, form, n));
                break;
            }
            case 32:
                if (random.nextInt(4) == 0) {
                    same("lose(" + s + ")", x.lose(s), y.lose(s));
                }
                break;
            case 33: {
                int v = random.nextInt();
                same("put(" + s + ", " + form + ", " + i + ", " + v + ")", x.put(s, form, i, v), y.put(s, form, i, v));
                break;
            }
            case 34:
                same("get(" + s + ", " + form + ", " + i + ")", x.get(s, form, i), y.get(s, form, i));
                break;
            case 35: {
                int n = number(0, 9);
                same("copy(" + s + ", " + i + ", " + t + ", " + j + ", " + n + ")", x.copy(s, i, t, j, n), y.copy(s, i, t, j, n));
                for (int k = 0; k < 12; k++) {
                    same("get of copy", x.get(t, form, k), y.get(t, form, k));
                }
                break;
            }
            case 36: {
                int station = number(0, 1);
                same("write(" + station + ", " + s + ")", x.write(station, s), y.write(station, s));
                for (int k = 0; k < 25; k++) {
                    same("get of write", x.get(s, form, k), y.get(s, form, k));
                }
                break;
            }
            default:
                for (int what = -1; what <= 9; what++) {
                    same("count(" + what + ")", x.count(what), y.count(what));
                }
                break;
        }
    }
}

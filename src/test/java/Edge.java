import java.util.ArrayList;
import java.util.List;
import java.util.function.ToLongBiFunction;
import java.util.function.ToLongFunction;

/** What the tests of the edges share: ranges of numbers, refusals that change nothing, objects that are full. */
final class Edge {
    static final int BAD = -2, NOT = -3, FULL = -4, NONE = -1;
    static final int NULL = -11, INDEX = -12, CAST = -13, STORE = -14, SIZE = -15;
    static final int MIN = Integer.MIN_VALUE, MAX = Integer.MAX_VALUE;
    static final long LONG_BAD = Long.MIN_VALUE + 2;

    /** 23, 47 and 24 bytes: not one more would go in. */
    static final String SIX_CARS = "xo4;ls3;fg5;as9;ms1;rs2";
    static final String TWELVE_COMINGS = "ab9;at4;cb3;ft6;kb2;xt1;xb1;bt7;db5;dt9;gb8;ht9";
    static final String ALL_SPEED = "123031312201320111203312";

    final Due due;

    Edge(String name) {
        due = new Due(name);
    }

    void is(String sentence, long got, long want) {
        due.is(sentence, got, want);
    }

    void end() {
        due.end();
    }

    /** Everything is told to the brim; SHEETS 0, 1, 2 are of FORMS 0, 1, 2 with three items, 3 is LOST. */
    static CableCars full() {
        CableCars x = Due.told(SIX_CARS, TWELVE_COMINGS, ALL_SPEED);
        int[][] events = {{0, 0, 0}, {1, 3, 5}, {2, 9, 1}, {0, 6, 2}, {1, 14, 0}, {2, 20, 5}, {0, 11, 1}, {2, 16, 0}};
        for (int[] e : events) {
            x.event(e[0], e[1], e[2]);
        }
        for (int i = 0; i < 8; i++) {
            x.seen(i, i % 2, x.waits(i, i % 2));
        }
        for (int s = 0; s < 3; s++) {
            x.sheet(s, s, 3);
            for (int i = 0; i < 3; i++) {
                x.put(s, s, i, 10 * s + i + 40);
            }
        }
        return x;
    }

    /** All that can be looked at; the latest FINDING is 5 behind it. */
    private static List<Long> look(CableCars x, boolean sheetsStand) {
        List<Long> all = new ArrayList<>();
        for (int what = 0; what <= 7; what++) {
            all.add((long) x.count(what));
        }
        all.add(x.digest());
        if (sheetsStand) {
            for (int i = 0; i < 9; i++) {
                all.add((long) x.get(i / 3, i / 3, i % 3));
            }
            for (int s = 0; s < 3; s++) {
                all.add((long) x.get(s, s, 3));
            }
        }
        for (int s = sheetsStand ? 3 : 0; s < 4; s++) {
            all.add((long) x.write(0, s));
        }
        x.sheet(0, 0, -1);
        return all;
    }

    /** The call is refused as told, and changes nothing but the latest FINDING, that only by a FINDING. */
    private void refused(String sentence, CableCars x, boolean sheetsStand, ToLongFunction<CableCars> call, long want, int finding) {
        List<Long> before = look(x, sheetsStand);
        due.is(sentence, call.applyAsLong(x), want);
        due.is(sentence + ", count(8)", x.count(8), finding);
        due.holds(sentence + " changes nothing", look(x, sheetsStand).equals(before));
    }

    private static int findingOf(long answer) {
        return answer <= -11 && answer >= -15 ? (int) (-10 - answer) : 5;
    }

    void refusedWhenFull(String sentence, ToLongFunction<CableCars> call, long want) {
        refused(sentence, full(), true, call, want, findingOf(want));
    }

    void refusedWhenNew(String sentence, ToLongFunction<CableCars> call, long want) {
        refused(sentence, new CableCars(), false, call, want, findingOf(want));
    }

    /** get() answers the least int for each refusal: the FINDING alone tells them apart. */
    void getRefused(String sentence, ToLongFunction<CableCars> call, int finding) {
        refused(sentence, full(), true, call, MIN, finding == 0 ? 5 : finding);
    }

    /** From least to most it is taken; one below, one above and far off it is BAD and changes nothing. */
    void range(String sentence, int least, int most, long bad, ToLongBiFunction<CableCars, Integer> call) {
        for (int wrong : new int[] {least - 1, most + 1, MIN, MAX}) {
            refusedWhenFull(sentence + ": " + wrong, x -> call.applyAsLong(x, wrong), bad);
        }
        due.holds(sentence + ": " + least + " is taken", call.applyAsLong(full(), least) != bad);
        due.holds(sentence + ": " + most + " is taken", call.applyAsLong(full(), most) != bad);
    }

    void range(String sentence, int least, int most, ToLongBiFunction<CableCars, Integer> call) {
        range(sentence, least, most, BAD, call);
    }

    static String times(int n, String s) {
        return s.repeat(n);
    }

    static void putAll(CableCars x, int s, int form, int... items) {
        x.sheet(s, form, items.length);
        for (int i = 0; i < items.length; i++) {
            x.put(s, form, i, items[i]);
        }
    }
}

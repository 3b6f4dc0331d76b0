import java.math.BigInteger;

/** The edges of promises 21 to 31: plans, seen, chance, years. Each test bears its promise's number. */
public final class EdgePlanTest {
    private static final int BAD = Edge.BAD, FULL = Edge.FULL, NONE = Edge.NONE;
    private static final int ALL_ROOMS = 1022, ALL_SORTS = 7;
    private static final Edge edge = new Edge("EdgePlanTest");

    public static void main(String[] args) {
        promise21Numbers();
        promise21WhereNoOtherOneHangs();
        promise21OfLikeOnesTheLeast();
        promise21FirstAndLastPlace();
        promise21ThereIsNoPlaceTwentyFour();
        promise21NothingChanges();
        promise22Numbers();
        promise22NoneToThreePlaces();
        promise22OfLikeOnesTheLeast();
        promise22FirstMomentAndStop();
        promise23Numbers();
        promise23LeastAndLikeOnes();
        promise23FirstAndLastMoment();
        promise23Stop();
        promise24Numbers();
        promise24NoneNeedBeSpared();
        promise24OneOrTwo();
        promise24ThreeAreTooMany();
        promise24OfLikeOnesTheLeastRow();
        promise24None();
        promise25Numbers();
        promise25EightAtMost();
        promise26NoneAndEight();
        promise27NoEventsAndNothingSeen();
        promise27EachAlone();
        promise27AllThatWasSeen();
        promise28Numbers();
        promise28RoomsBits();
        promise28SortBits();
        promise28NothingComesOutSo();
        promise29Numbers();
        promise29NoneOrOneOfRooms();
        promise29OfLikeOnesTheLeast();
        promise29FirstAndLastOfRooms();
        promise29FirstAndLastMoment();
        promise29BothStations();
        promise30Numbers();
        promise30NoughtByOneAndOneByOne();
        promise30NoneToSixteenSixteenths();
        promise30LowestTerms();
        promise30EightEvents();
        promise30BehindAMoment();
        promise31Numbers();
        promise31NoLotsAndAll();
        promise31EachLot();
        promise31SeedsThatWrap();
        promise31InPlaceOfWhatIsTold();
        edge.end();
    }

    // 21: BAD
    private static void promise21Numbers() {
        edge.range("21 CAR, six of them", 0, 5, (x, car) -> x.hang(car, 0));
        edge.range("21 what", 0, 1, (x, what) -> x.hang(5, what));
        edge.refusedWhenNew("21 no CARS", x -> x.hang(0, 0), BAD);
        CableCars x = Due.told("as1;bs1", "", "");
        edge.is("21 the last", x.hang(1, 0), 1);
        edge.is("21 one more", x.hang(2, 0), BAD);
    }

    private static void hangIs(String sentence, CableCars x, int car, int which, int many) {
        edge.is("21 " + sentence + ": which", x.hang(car, 0), which);
        edge.is("21 " + sentence + ": how many", x.hang(car, 1), many);
    }

    // where no other one hangs
    private static void promise21WhereNoOtherOneHangs() {
        hangIs("its own place is free", Due.told("as1", "", ""), 0, 0, 0);
        hangIs("0 is taken", Due.told("as1;xs1", "", ""), 1, 1, 0);
        hangIs("0 to 4 are taken", Due.told("as1;bs1;cs1;ds1;es1;xs1", "", ""), 5, 5, 0);
        hangIs("0 to 4 are taken, it is told first", Due.told("xs1;as1;bs1;cs1;ds1;es1", "", ""), 0, 5, 0);
        hangIs("its own among them", Due.told("as1;bs1;cs1;ds1;es1;fs1", "", ""), 2, 2, 0);
        // by 12 to 23 those at the bottom come to the top in time
        hangIs("12 is free", Due.told("bs4", "ab4", ""), 0, 12, 4);
        hangIs("12 is taken", Due.told("bs4;mg1", "ab4", ""), 0, 13, 4);
        hangIs("12 and 13 are taken", Due.told("bs4;mg1;ng1", "ab4", ""), 0, 14, 4);
        hangIs("11 and 13 are taken", Due.told("bs4;lg1;ng1", "ab4", ""), 0, 12, 4);
    }

    // of like ones the least
    private static void promise21OfLikeOnesTheLeast() {
        // from 12 on it comes to the bottom behind 11, to the top behind 23
        hangIs("the least of 12 to 23", Due.told("xs4", "ab4", ""), 0, 12, 4);
        hangIs("one place later it is too late", Due.told("xs4", "ab4", "0"), 0, 0, 4);
        hangIs("nobody", Due.told("xs4", "", ""), 0, 0, 0);
        hangIs("JAMMED: alike everywhere", jammed(), 0, 0, 0);
    }

    private static CableCars jammed() {
        CableCars x = Due.told("xs4", "ab4", "");
        x.event(2, 0, 0);
        return x;
    }

    private static void promise21FirstAndLastPlace() {
        // it goes twelve places in all: who is not at the bottom in 0 comes too late
        hangIs("0 alone", Due.told("ms4", "ab4", Edge.times(12, "0")), 0, 0, 4);
        // thirteen places: from 23 it comes to the bottom in 0, to the top in 12
        hangIs("23 alone", Due.told("ms4", "ab4", "1111111111111" + Edge.times(11, "0")), 0, 23, 4);
        hangIs("22 needs one more", Due.told("ms4;xg1", "ab4", "11111111111111" + Edge.times(10, "0")), 0, 22, 4);
    }

    private static void promise21ThereIsNoPlaceTwentyFour() {
        // At 0 it takes the one at the bottom along, cannot let him out at the top for the GUST, and has ROOM there for
        // three of four, who come as it stands: with twelve places to go from there no other PLACE is in time for them.
        // One that went as from 0, yet did not stand at the bottom at first, would leave him to the other CAR: five.
        CableCars x = Due.told("ao4;xs9", "ab1;nt4", "0" + Edge.times(12, "1") + "022");
        x.event(0, 12, 0);
        hangIs("0 to 23", x, 0, 0, 4);
        edge.is("21 it is at the top as it stands", x.at(13, 0, 0), 12);
        edge.is("21 it is at the bottom at last", x.at(23, 0, 0), 0);
    }

    private static void promise21NothingChanges() {
        CableCars x = Edge.full();
        long before = x.digest();
        for (int car = 0; car < 6; car++) {
            x.hang(car, 0);
            x.pace(23, 0);
            x.cheap(0, 1);
            x.spare(1);
            x.never();
            x.was(car, 0);
            x.was(car, 1);
            x.ask(car);
            x.chance(16, 23, 0);
            x.years(car, 24, 0);
        }
        edge.is("21 to 31 nothing changes", x.digest(), before);
        edge.is("21 to 31 no FINDING", x.count(8), 0);
        edge.is("21 as told", x.car(0, 0), 23);
    }

    // 22: BAD
    private static void promise22Numbers() {
        edge.range("22 MOMENT", 0, 23, (x, moment) -> x.pace(moment, 0));
        edge.range("22 what", 0, 1, (x, what) -> x.pace(23, what));
        edge.refusedWhenNew("22 MOMENT -1", x -> x.pace(-1, 0), BAD);
        edge.refusedWhenNew("22 MOMENT 24", x -> x.pace(24, 0), BAD);
        edge.refusedWhenNew("22 what 2", x -> x.pace(0, 2), BAD);
    }

    private static void paceIs(String sentence, CableCars x, int moment, int which, int many) {
        edge.is("22 " + sentence + ": which", x.pace(moment, 0), which);
        edge.is("22 " + sentence + ": how many", x.pace(moment, 1), many);
    }

    /** It waits at the bottom for so many MOMENTS, four get in in the first; then it goes. */
    private static CableCars late(int moments) {
        return Due.told("as4", "ab4", Edge.times(moments, "0"));
    }

    // 0 to 3 PLACES
    private static void promise22NoneToThreePlaces() {
        paceIs("there in 22", late(11), 23, 0, 4);
        paceIs("one place short", late(12), 23, 1, 4);
        paceIs("two places short", late(13), 23, 2, 4);
        paceIs("three places short", late(14), 23, 3, 4);
        paceIs("four places short", late(15), 23, 0, 0);
    }

    // of like ones the least
    private static void promise22OfLikeOnesTheLeast() {
        paceIs("nobody", new CableCars(), 0, 0, 0);
        paceIs("all alike", Due.told("xs4", "ab4", ""), 5, 0, 4);
        paceIs("all alike in the second", late(12), 1, 0, 4);
        // behind 11 it is at 11: by 1, 2 and 3 alike it comes to the top, by 0 it does not
        paceIs("0 is worse", Due.told("as4", "ab4", "011111111111" + "3" + Edge.times(11, "0")), 12, 1, 4);
    }

    private static void promise22FirstMomentAndStop() {
        // only if it stands in 0 do they get in in time
        paceIs("in place of what is told", Due.told("as4", "ab4", "3"), 0, 0, 4);
        CableCars x = late(12);
        x.event(1, 23, 0);
        paceIs("a STOP in it", x, 23, 0, 0);
        paceIs("a STOP in another", x, 22, 2, 4);
        CableCars y = Due.told("as4", "ab4", "3");
        y.event(1, 0, 0);
        paceIs("a STOP in it, as told", y, 0, 0, 4);
    }

    // 23: BAD
    private static void promise23Numbers() {
        edge.range("23 MOMENT", 0, 23, (x, moment) -> x.cheap(moment, 0));
        edge.range("23 what", 0, 1, (x, what) -> x.cheap(23, what));
        edge.refusedWhenNew("23 MOMENT -1", x -> x.cheap(-1, 0), BAD);
        edge.refusedWhenNew("23 MOMENT 24", x -> x.cheap(24, 0), BAD);
        edge.refusedWhenNew("23 what -1", x -> x.cheap(0, -1), BAD);
    }

    private static void cheapIs(String sentence, CableCars x, int moment, int which, int much) {
        edge.is("23 " + sentence + ": which", x.cheap(moment, 0), which);
        edge.is("23 " + sentence + ": how much", x.cheap(moment, 1), much);
    }

    // by which SUM is least, of like ones the least
    private static void promise23LeastAndLikeOnes() {
        cheapIs("nothing told", new CableCars(), 0, 0, 0);
        cheapIs("all alike", Due.told("xs4", "ab4", ""), 5, 0, 48);
        // by 1 it comes to the bottom in 23; by 2 or 3 it goes up again by one place, or two
        cheapIs("1 alone", Due.told("as4", "ab4", "0"), 0, 1, 0);
        // by 1 it comes to the bottom in 21, by 2 in 20, by 3 in 19, and goes up from there
        cheapIs("1 is less than 2 and 3", Due.told("as4", "ab4", "03" + Edge.times(20, "1")), 0, 1, 8);
        // they come in 1: by 3 it is away, by 0, 1, 2 it is not
        cheapIs("3 alone", Due.told("vs4", "bb4", ""), 0, 3, 0);
        cheapIs("2 and 3", Due.told("ws4", "bb4", ""), 0, 2, 0);
    }

    private static void promise23FirstAndLastMoment() {
        cheapIs("in 23", late(12), 23, 0, 44);
        cheapIs("in 23, as told", late(24), 23, 0, 0);
        cheapIs("in 23, there already", late(11), 23, 0, 48);
        cheapIs("in 0", late(1), 0, 1, 0);
    }

    private static void promise23Stop() {
        CableCars x = late(1);
        x.event(1, 0, 0);
        cheapIs("a STOP in it", x, 0, 0, 48);
        edge.is("23 as told", x.sum(), 48);
    }

    // 24: BAD
    private static void promise24Numbers() {
        edge.range("24 i (NONE, 0, 1)", -1, 1, (x, i) -> x.spare(i));
        edge.refusedWhenNew("24 i -2", x -> x.spare(-2), BAD);
        edge.refusedWhenNew("24 i 2", x -> x.spare(2), BAD);
    }

    private static void spareIs(String sentence, CableCars x, int many, int zeroth, int next) {
        edge.is("24 " + sentence + ": how many", x.spare(NONE), many);
        edge.is("24 " + sentence + ": the 0th", x.spare(0), zeroth);
        edge.is("24 " + sentence + ": the next", x.spare(1), next);
    }

    private static CableCars jams(String cars, int ahead, int jams) {
        CableCars x = Due.told(cars, "ab4", "");
        for (int i = 0; i < ahead; i++) {
            x.event(0, 5, 0);
        }
        for (int i = 0; i < jams; i++) {
            x.event(2, 0, 0);
        }
        return x;
    }

    private static void promise24NoneNeedBeSpared() {
        spareIs("nothing told", new CableCars(), 0, NONE, NONE);
        spareIs("no EVENTS", jams("xs4", 0, 0), 0, NONE, NONE);
        spareIs("eight that do no harm", jams("xs4", 8, 0), 0, NONE, NONE);
        CableCars nobody = new CableCars();
        nobody.event(1, 0, 0);
        spareIs("nobody comes", nobody, 0, NONE, NONE);
    }

    // the fewest EVENTS (0 to 2)
    private static void promise24OneOrTwo() {
        spareIs("the only one", jams("xs4", 0, 1), 1, 0, NONE);
        spareIs("the eighth", jams("xs4", 7, 1), 1, 7, NONE);
        spareIs("both", jams("xs4", 0, 2), 2, 0, 1);
        spareIs("the seventh and eighth", jams("xs4", 6, 2), 2, 6, 7);
        CableCars apart = jams("xs4", 0, 1);
        for (int i = 0; i < 6; i++) {
            apart.event(0, 5, 0);
        }
        apart.event(2, 12, 0);
        spareIs("the first and eighth", apart, 2, 0, 7);
    }

    private static void promise24ThreeAreTooMany() {
        spareIs("three", jams("xs4", 0, 3), NONE, NONE, NONE);
        spareIs("three of eight", jams("xs4", 5, 3), NONE, NONE, NONE);
        spareIs("eight", jams("xs4", 0, 8), NONE, NONE, NONE);
    }

    // of like ones the least row (each more than the one ahead)
    private static void promise24OfLikeOnesTheLeastRow() {
        // fourteen places are needed: of fifteen, fourteen, thirteen .. moments so many are stopped
        for (int stops = 0; stops <= 8; stops++) {
            CableCars x = Due.told("ws4", "ab4", Edge.times(15, "1") + Edge.times(9, "0"));
            for (int i = 0; i < stops; i++) {
                x.event(1, 9 - i, 0);
            }
            int spared = Math.max(0, stops - 1);
            spareIs(stops + " STOPS", x, spared > 2 ? NONE : spared, spared == 0 || spared > 2 ? NONE : 0, spared == 2 ? 1 : NONE);
        }
        // a jam and two stops: the jam and either stop
        CableCars y = Due.told("ws4", "ab4", Edge.times(15, "1") + Edge.times(9, "0"));
        y.event(1, 3, 0);
        y.event(2, 0, 0);
        y.event(1, 4, 0);
        spareIs("the jam and the first STOP", y, 2, 0, 1);
        // one alone is fewer than two that are ahead
        CableCars z = Due.told("xs4", "ab4", "");
        z.event(1, 3, 0);
        z.event(1, 4, 0);
        z.event(2, 12, 0);
        spareIs("one alone", z, 1, 2, NONE);
    }

    // 24: NONE
    private static void promise24None() {
        CableCars x = Due.told("", "ab1", "");
        spareIs("no CARS, no EVENTS", x, NONE, NONE, NONE);
        x.event(1, 0, 0);
        spareIs("no CARS", x, NONE, NONE, NONE);
        spareIs("one is left whatever is spared", jams("xs3", 0, 1), NONE, NONE, NONE);
    }

    // 25: BAD
    private static void promise25Numbers() {
        edge.range("25 MOMENT", 0, 23, (x, moment) -> x.seen(moment, 0, 0));
        edge.range("25 station", 0, 1, (x, station) -> x.seen(0, station, 0));
        edge.range("25 so many (0 to 108)", 0, 108, (x, many) -> x.seen(0, 0, many));
        edge.refusedWhenNew("25 MOMENT -1", x -> x.seen(-1, 0, 0), BAD);
        edge.refusedWhenNew("25 MOMENT 24", x -> x.seen(24, 0, 0), BAD);
        edge.refusedWhenNew("25 station -1", x -> x.seen(0, -1, 0), BAD);
        edge.refusedWhenNew("25 station 2", x -> x.seen(0, 2, 0), BAD);
        edge.refusedWhenNew("25 -1", x -> x.seen(0, 0, -1), BAD);
        edge.refusedWhenNew("25 109", x -> x.seen(0, 0, 109), BAD);
        CableCars x = new CableCars();
        edge.is("25 0", x.seen(0, 0, 0), 1);
        edge.is("25 108", x.seen(23, 1, 108), 2);
    }

    // SEEN, 8 at most
    private static void promise25EightAtMost() {
        CableCars x = new CableCars();
        for (int i = 1; i <= 8; i++) {
            edge.is("25 how many", x.seen(0, 0, 0), i);
        }
        edge.is("25 a ninth", x.seen(0, 0, 0), FULL);
        edge.is("25 eight", x.count(7), 8);
        edge.refusedWhenFull("25 FULL", y -> y.seen(0, 0, 108), FULL);
        edge.refusedWhenFull("25 BAD ahead of FULL", y -> y.seen(24, 0, 0), BAD);
        edge.refusedWhenFull("25 BAD ahead of FULL", y -> y.seen(0, 2, 0), BAD);
        edge.refusedWhenFull("25 BAD ahead of FULL", y -> y.seen(0, 0, 109), BAD);
    }

    // 26: All SEEN are forgotten: how many
    private static void promise26NoneAndEight() {
        CableCars x = new CableCars();
        edge.is("26 none", x.forget(), 0);
        x.seen(0, 0, 0);
        edge.is("26 one", x.forget(), 1);
        edge.is("26 again", x.forget(), 0);
        CableCars y = Edge.full();
        edge.is("26 eight", y.forget(), 8);
        edge.is("26 none is left", y.count(7), 0);
        edge.is("26 EVENTS stay", y.count(6), 8);
        for (int i = 1; i <= 8; i++) {
            edge.is("26 space again", y.seen(0, 0, 0), i);
        }
        edge.is("26 for eight alone", y.seen(0, 0, 0), FULL);
    }

    private static void promise27NoEventsAndNothingSeen() {
        CableCars x = Due.told("xs4", "ab4", "");
        edge.is("27 no EVENTS", x.never(), 0);
        x.seen(0, 0, 0);
        edge.is("27 no EVENTS, SEEN so", x.never(), 0);
        x.forget();
        for (int n = 1; n <= 8; n++) {
            x.event(n % 3, n, 0);
            edge.is("27 nothing SEEN, " + n + " EVENTS", x.never(), (1 << n) - 1);
        }
        x.seen(0, 0, 108);
        edge.is("27 none makes it come out so", x.never(), 0);
    }

    // each of which, had it alone not been
    private static void promise27EachAlone() {
        for (int harm = 0; harm < 8; harm++) {
            CableCars x = Due.told("xo4", "ab6", "");
            for (int i = 0; i < 8; i++) {
                x.event(i == harm ? 0 : 1, i == harm ? 0 : 5 + i, 0);
            }
            x.seen(0, 0, 2);
            edge.is("27 the GUST alone", x.never(), 1 << harm);
            x.forget();
            x.seen(0, 0, 6);
            edge.is("27 all but the GUST", x.never(), 255 & ~(1 << harm));
        }
        CableCars two = Due.told("xo4", "ab6", "");
        two.event(0, 0, 0);
        two.event(0, 0, 0);
        two.seen(0, 0, 2);
        edge.is("27 neither of two alone", two.never(), 0);
    }

    // makes all that was SEEN come out so
    private static void promise27AllThatWasSeen() {
        CableCars x = Due.told("xo4", "ab6;xt1", "");
        x.event(0, 0, 0);
        x.event(1, 23, 0);
        x.seen(0, 0, 2);
        edge.is("27 the first", x.never(), 1);
        x.seen(23, 1, 1);
        edge.is("27 and behind 23", x.never(), 1);
        for (int i = 0; i < 5; i++) {
            x.seen(22, 1, 0);
        }
        edge.is("27 seven", x.never(), 1);
        x.seen(0, 0, 3);
        edge.is("27 the eighth is against it", x.never(), 0);
    }

    // 28: BAD
    private static void promise28Numbers() {
        edge.range("28 CAR, six of them", 0, 5, (x, car) -> x.was(car, 0));
        edge.range("28 what", 0, 1, (x, what) -> x.was(5, what));
        edge.refusedWhenNew("28 no CARS", x -> x.was(0, 0), BAD);
        CableCars x = Due.told("as1;bs1", "", "");
        edge.is("28 the last", x.was(1, 1), ALL_SORTS);
        edge.is("28 one more", x.was(2, 1), BAD);
    }

    // 1 to 9, as bits (bit 1 on)
    private static void promise28RoomsBits() {
        for (int wait = 0; wait <= 9; wait++) {
            CableCars x = Due.told("xs5", "ab9", "");
            edge.is("28 nothing SEEN", x.was(0, 0), ALL_ROOMS);
            x.seen(0, 0, wait);
            edge.is("28 wait " + wait, x.was(0, 0), wait == 9 ? 0 : 1 << 9 - wait);
        }
        int[] goods = {0, 0, 0, 0, 0, 1 << 8 | 1 << 9, 1 << 6 | 1 << 7, 1 << 4 | 1 << 5, 1 << 2 | 1 << 3, 1 << 1};
        for (int wait = 0; wait <= 9; wait++) {
            CableCars x = Due.told("xg5", "ab9", "");
            x.seen(0, 0, wait);
            edge.is("28 goods, wait " + wait, x.was(0, 0), goods[wait]);
        }
        CableCars last = Due.told("bs1;cs1;ds1;es1;fs1;xs1", "ab9", "");
        last.seen(0, 0, 0);
        edge.is("28 the sixth CAR", last.was(5, 0), 1 << 9);
        edge.is("28 by no ROOM of another", last.was(0, 0), 0);
    }

    // 0 o, 1 s, 2 g, as bits
    private static void promise28SortBits() {
        for (String sort : new String[] {"o", "s", "g"}) {
            CableCars x = Due.told("x" + sort + "4", "ab9", "");
            edge.is("28 nothing SEEN", x.was(0, 1), ALL_SORTS);
            x.event(0, 0, 0);
            int[] want = {0, 0, 0, 0, 0, 2, 0, 4, 0, 1};
            for (int wait = 0; wait <= 9; wait++) {
                x.forget();
                x.seen(0, 0, wait);
                edge.is("28 in a GUST wait " + wait, x.was(0, 1), want[wait]);
            }
            x.back();
            x.forget();
            x.seen(0, 0, 5);
            edge.is("28 without one", x.was(0, 1), 3);
        }
    }

    private static void promise28NothingComesOutSo() {
        CableCars x = Due.told("xs4", "ab9", "");
        x.seen(0, 0, 5);
        edge.is("28 as told", x.was(0, 0), 1 << 4);
        x.seen(0, 0, 4);
        edge.is("28 never both: ROOMS", x.was(0, 0), 0);
        edge.is("28 never both: SORT", x.was(0, 1), 0);
        x.forget();
        edge.is("28 forgotten", x.was(0, 0), ALL_ROOMS);
        x.event(2, 0, 0);
        x.seen(23, 0, 9);
        edge.is("28 JAMMED: ROOMS", x.was(0, 0), ALL_ROOMS);
        edge.is("28 JAMMED: SORT", x.was(0, 1), ALL_SORTS);
    }

    // 29: BAD
    private static void promise29Numbers() {
        edge.range("29 CAR, six of them", 0, 5, (x, car) -> x.ask(car));
        edge.refusedWhenNew("29 no CARS", x -> x.ask(0), BAD);
        CableCars x = Due.told("as1;bs1", "", "");
        edge.is("29 the last", x.ask(1), 0);
        edge.is("29 one more", x.ask(2), BAD);
    }

    private static void promise29NoneOrOneOfRooms() {
        CableCars x = Due.told("as4", "xb9", "");
        x.seen(0, 0, 1);
        edge.is("29 no ROOMS", x.ask(0), 0);
        x.forget();
        x.seen(23, 0, 2);
        edge.is("29 one of ROOMS", x.was(0, 0), 1 << 7);
        edge.is("29 one of ROOMS", x.ask(0), 0);
    }

    // of like ones the least
    private static void promise29OfLikeOnesTheLeast() {
        edge.is("29 nobody: all alike", Due.told("xs4", "", "").ask(0), 0);
        edge.is("29 never told apart", Due.told("bs4", "ab9", Edge.times(24, "0")).ask(0), 0);
        edge.is("29 from 22 on", Due.told("bs4", "ab9", "").ask(0), 22);
        edge.is("29 from 3 on", Due.told("us4", "ab9", "").ask(0), 3);
        // behind 0 ROOMS 1 and 2 are told from all others; behind 12 no better
        edge.is("29 no better later", Due.told("xs4", "ab3;at3", "").ask(0), 0);
        // behind 12 four at the top tell one more ROOM
        edge.is("29 better later", Due.told("xs4", "ab3;at4", "").ask(0), 12);
    }

    // the greatest number of those of ROOMS: the first and the last of them count
    private static void promise29FirstAndLastOfRooms() {
        // behind 0 all nine are alike, behind 12 ROOM 1 is told from the eight
        edge.is("29 ROOM 1", Due.told("xs4", "ab1;at2", "").ask(0), 12);
        // behind 0 ROOMS 8 and 9 are alike, behind 12 none are
        edge.is("29 ROOM 9", Due.told("xs4", "ab8;at9", "").ask(0), 12);
        edge.is("29 ROOM 9, it was told from 8", Due.told("xs4", "ab9;at9", "").ask(0), 0);
    }

    private static void promise29FirstAndLastMoment() {
        edge.is("29 in 0", Due.told("xs4", "ab9", "").ask(0), 0);
        edge.is("29 in 1", Due.told("ws4", "ab9", "").ask(0), 1);
        edge.is("29 in 22", Due.told("as4", "wb9", "2").ask(0), 22);
        edge.is("29 in 23", Due.told("as4", "xb9", "").ask(0), 23);
        edge.is("29 one place too late", Due.told("as4", "xb9", "0").ask(0), 0);
    }

    // by which as many wait at both stations; of those of ROOMS
    private static void promise29BothStations() {
        // behind 0 the bottom tells 1 to 4 and 5 to 9; behind 12 the top all
        edge.is("29 the top", Due.told("xs4", "ab5;at9", "").ask(0), 12);
        CableCars x = Due.told("xs4", "ab5;at9", "");
        x.seen(0, 0, 1);
        edge.is("29 ROOM 4 alone", x.ask(0), 0);
        x.forget();
        x.seen(0, 0, 0);
        edge.is("29 ROOMS 5 to 9", x.ask(0), 12);
        // goods: two ROOMS are alike at best, behind 0 already
        edge.is("29 goods", Due.told("xg4", "ab9;at9", "").ask(0), 0);
    }

    // 30: BAD (as the least long)
    private static void promise30Numbers() {
        edge.range("30 c (0 to 16)", 0, 16, Edge.LONG_BAD, (x, c) -> x.chance(c, 0, 0));
        edge.range("30 MOMENT", 0, 23, Edge.LONG_BAD, (x, moment) -> x.chance(8, moment, 0));
        edge.range("30 what", 0, 1, Edge.LONG_BAD, (x, what) -> x.chance(8, 0, what));
        edge.refusedWhenNew("30 c -1", x -> x.chance(-1, 0, 0), -9223372036854775806L);
        edge.refusedWhenNew("30 c 17", x -> x.chance(17, 0, 1), -9223372036854775806L);
        edge.refusedWhenNew("30 MOMENT 24", x -> x.chance(0, 24, 0), -9223372036854775806L);
        edge.refusedWhenNew("30 what 2", x -> x.chance(0, 0, 2), -9223372036854775806L);
    }

    private static void chanceIs(String sentence, CableCars x, int c, int moment, long above, long below) {
        edge.is("30 " + sentence + ": above", x.chance(c, moment, 0), above);
        edge.is("30 " + sentence + ": below", x.chance(c, moment, 1), below);
    }

    // FRACTIONS are told in lowest terms, above and below (0 by 1)
    private static void promise30NoughtByOneAndOneByOne() {
        for (int c = 0; c <= 16; c += 4) {
            chanceIs("nothing told", new CableCars(), c, 23, 1, 1);
            chanceIs("one waits, no EVENTS", Due.told("", "ab1", ""), c, 0, 0, 1);
            CableCars surely = Due.told("xs1", "ab1", "");
            CableCars never = Due.told("xs1", "ab2", "");
            for (int i = 0; i < 8; i++) {
                surely.event(1, 5 + i, 0);
                never.event(1, 5 + i, 0);
            }
            chanceIs("surely, eight EVENTS", surely, c, 0, 1, 1);
            chanceIs("never, eight EVENTS", never, c, 0, 0, 1);
        }
    }

    // by c sixteenths (0 to 16)
    private static void promise30NoneToSixteenSixteenths() {
        CableCars gust = Due.told("xo1", "ab1", "");
        gust.event(0, 0, 0);
        CableCars stop = Due.told("as1", "ab1", "");
        stop.event(1, 0, 0);
        for (int c = 0; c <= 16; c++) {
            int g = c == 0 ? 16 : Integer.lowestOneBit(c | 16);
            chanceIs("unless a GUST, " + c, gust, c, 0, (16 - c) / g, c == 16 ? 1 : 16 / g);
            chanceIs("by a STOP, " + c, stop, c, 0, c / g, c == 0 ? 1 : 16 / g);
        }
    }

    private static void promise30LowestTerms() {
        CableCars x = Due.told("xo1", "ab1", "");
        x.event(0, 0, 0);
        x.event(2, 0, 0);
        chanceIs("15 15 by 256", x, 1, 0, 225, 256);
        chanceIs("14 14 by 256", x, 2, 0, 49, 64);
        chanceIs("8 8 by 256", x, 8, 0, 1, 4);
        chanceIs("1 by 256", x, 15, 0, 1, 256);
        // a stop keeps it at the bottom: it is either, one less both
        CableCars y = Due.told("as1", "ab1", "");
        y.event(1, 0, 0);
        y.event(1, 0, 0);
        chanceIs("256 less 225", y, 1, 0, 31, 256);
        chanceIs("256 less 64", y, 8, 0, 3, 4);
    }

    private static void promise30EightEvents() {
        CableCars x = Due.told("xo1", "ab1", "");
        CableCars y = Due.told("as1", "ab1", "");
        for (int n = 1; n <= 8; n++) {
            x.event(0, 0, 0);
            y.event(1, 0, 0);
            long below = BigInteger.valueOf(16).pow(n).longValueExact();
            long above = BigInteger.valueOf(15).pow(n).longValueExact();
            chanceIs("none of " + n, x, 1, 0, above, below);
            chanceIs("any of " + n, y, 1, 0, below - above, below);
            chanceIs("all but one sixteenth of " + n, x, 15, 0, 1, below);
        }
        edge.is("30 above is more than an int", x.chance(1, 0, 0), 2562890625L);
        edge.is("30 below is 2 to the 32nd", x.chance(1, 0, 1), 4294967296L);
    }

    // nobody waits behind a MOMENT: at neither station, behind it and not later
    private static void promise30BehindAMoment() {
        CableCars x = Due.told("xs1", "ab1;xt1", "");
        x.event(2, 0, 0);
        chanceIs("in 0", x, 8, 0, 1, 2);
        chanceIs("in 22", x, 8, 22, 1, 2);
        chanceIs("in 23 one waits at the top", x, 8, 23, 0, 1);
        CableCars y = Due.told("as1", "bb1", "");
        y.event(1, 23, 0);
        chanceIs("ahead of those who come", y, 3, 0, 1, 1);
        chanceIs("they wait", y, 3, 1, 0, 1);
        chanceIs("they wait yet", y, 3, 22, 0, 1);
        chanceIs("unless a STOP in 23", y, 3, 23, 13, 16);
        CableCars later = Due.told("xo1", "ab1", "");
        later.event(0, 1, 0);
        chanceIs("a GUST later", later, 16, 0, 1, 1);
    }

    // 31: BAD
    private static void promise31Numbers() {
        edge.range("31 n (0 to 24)", 0, 24, (x, n) -> x.years(1, n, 0));
        edge.range("31 what", 0, 1, (x, what) -> x.years(1, 24, what));
        edge.refusedWhenNew("31 n -1", x -> x.years(1, -1, 0), BAD);
        edge.refusedWhenNew("31 n 25", x -> x.years(1, 25, 0), BAD);
        edge.refusedWhenNew("31 what 2", x -> x.years(1, 0, 2), BAD);
        edge.refusedWhenNew("31 what -1", x -> x.years(1, 0, -1), BAD);
    }

    /** The lots as the document tells them, in numbers that never wrap by themselves. */
    private static String lots(int seed, int n) {
        BigInteger word = BigInteger.ONE.shiftLeft(32);
        BigInteger s = BigInteger.valueOf(seed).mod(word);
        StringBuilder all = new StringBuilder();
        for (int i = 0; i < n; i++) {
            s = s.multiply(BigInteger.valueOf(1103515245)).add(BigInteger.valueOf(12345)).mod(word);
            all.append(s.shiftRight(16).mod(BigInteger.valueOf(4)));
        }
        return all.toString();
    }

    private static void yearsAre(String sentence, CableCars x, String cars, String comings, int seed, int n) {
        CableCars told = Due.told(cars, comings, lots(seed, n));
        edge.is("31 " + sentence + ", " + seed + ", " + n + ": COME OVER", x.years(seed, n, 0), told.over(0) + told.over(1));
        edge.is("31 " + sentence + ", " + seed + ", " + n + ": SUM", x.years(seed, n, 1), told.sum());
    }

    // n LOTS of 4 (0 to 24) are THE SPEED (1 in later MOMENTS)
    private static void promise31NoLotsAndAll() {
        String cars = "xs4;ls3;fo5";
        String comings = "ab9;at9;hb9;jt9;lb9;pt9";
        CableCars x = Due.told(cars, comings, "");
        for (int n = 0; n <= 24; n++) {
            yearsAre("n", x, cars, comings, 1, n);
        }
        edge.is("31 no LOTS: COME OVER", x.years(7, 0, 0), x.over(0) + x.over(1));
        edge.is("31 no LOTS: SUM", x.years(7, 0, 1), x.sum());
        edge.is("31 nobody", new CableCars().years(1, 24, 0), 0);
    }

    private static void promise31EachLot() {
        // it stands: all get in, and come to the top; by 1, 2, 3 it comes round again in 23, 22, 21
        CableCars x = Due.told("as9", "ab9", "");
        int[] sums = {108, 0, 9, 18};
        boolean[] met = new boolean[4];
        for (int seed = -20; seed <= 20; seed++) {
            int lot = lots(seed, 1).charAt(0) - '0';
            met[lot] = true;
            edge.is("31 one LOT of " + seed, x.years(seed, 1, 1), sums[lot]);
            edge.is("31 one LOT of " + seed, x.years(seed, 1, 0), lot == 0 ? 9 : 0);
        }
        for (int lot = 0; lot < 4; lot++) {
            edge.due.holds("31 LOT " + lot + " is met", met[lot]);
        }
        // SEED 0 becomes 12345: its upper 16 bits are 0; SEED 1 becomes 1103527590: 16838
        edge.is("31 SEED 0", x.years(0, 1, 1), 108);
        edge.is("31 SEED 1", x.years(1, 1, 1), 9);
    }

    // as ints that wrap; its upper 16 bits as a number from 0 on
    private static void promise31SeedsThatWrap() {
        String cars = "xs4;ls3;fs5";
        String comings = "ab9;at9;hb9;jt9;lb9;pt9";
        int[] seeds = {Edge.MIN, Edge.MIN + 1, -1, 0, 1, Edge.MAX - 1, Edge.MAX, 65535, 65536, 1 << 30};
        CableCars x = Due.told(cars, comings, "");
        for (int seed : seeds) {
            yearsAre("wraps", x, cars, comings, seed, 1);
            yearsAre("wraps", x, cars, comings, seed, 23);
            yearsAre("wraps", x, cars, comings, seed, 24);
        }
    }

    // in place of what is told
    private static void promise31InPlaceOfWhatIsTold() {
        CableCars x = Due.told("xs4", "ab4", Edge.times(24, "0"));
        edge.is("31 none told", x.years(1, 0, 0), 4);
        edge.is("31 as told", x.over(1), 0);
        yearsAre("all told", x, "xs4", "ab4", 1, 24);
        yearsAre("later ones", x, "xs4", "ab4", 1, 3);
        CableCars stop = Due.told("xs4", "ab4", "");
        stop.event(2, 12, 0);
        edge.is("31 EVENTS are as told", stop.years(1, 0, 0), 0);
        edge.is("31 EVENTS are as told", stop.years(1, 0, 1), 48);
    }
}

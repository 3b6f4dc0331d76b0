/** The edges of promises 12 to 20, and of the Terms that they tell by: moments. Each test bears its promise's number. */
public final class EdgeRideTest {
    private static final int BAD = Edge.BAD, NONE = Edge.NONE;
    private static final Edge edge = new Edge("EdgeRideTest");

    public static void main(String[] args) {
        promise12Numbers();
        promise12NoSuchCar();
        promise12PlacesGoRound();
        promise12ByNoneToThreePlaces();
        promise12StopsAndSpeedNought();
        promise12AsManyAsItHasRoom();
        promise12HalfForGoods();
        promise12ServedOnTheWay();
        promise12NotServedWhereItSetsOut();
        promise12MoreGetInWhereItStands();
        promise12NobodyGetsOutWhereItStands();
        promise12Jammed();
        promise12Gust();
        promise12GustAndJamWhereItStands();
        promise12WhatIsToldLaterHolds();
        promise12WhatIsUndoneDoesNot();
        promise13Numbers();
        promise13ComingsComeFirst();
        promise13NobodyAndMost();
        promise13InAllCars();
        promise13PowerUpAndDown();
        promise13PowerNoughtAtLeast();
        promise13PowerByEachPlace();
        promise13TheGreatestPower();
        promise14Station();
        promise14ByMomentTwentyThree();
        promise14EitherStation();
        promise15Sum();
        promise16Numbers();
        promise16OfLikeOnesTheLeast();
        promise16NobodyAndMost();
        promise16FirstAndLastMoment();
        promise17Numbers();
        promise17None();
        promise17EarliestAndLatest();
        promise17TheFirstCar();
        promise18Numbers();
        promise18GotOut();
        promise19Bits();
        promise19NobodyEver();
        promise20NobodyAndMost();
        promise20InACarOrWaiting();
        edge.end();
    }

    // 12: BAD
    private static void promise12Numbers() {
        edge.range("12 MOMENT", 0, 23, (x, moment) -> x.at(moment, 0, 0));
        edge.range("12 CAR, six of them", 0, 5, (x, car) -> x.at(0, car, 1));
        edge.range("12 what", 0, 1, (x, what) -> x.at(23, 5, what));
    }

    private static void promise12NoSuchCar() {
        edge.refusedWhenNew("12 no CARS", x -> x.at(0, 0, 0), BAD);
        CableCars x = Due.told("as1;bs1", "", "");
        edge.is("12 the last CAR", x.at(0, 1, 0), 2);
        edge.is("12 one more", x.at(0, 2, 0), BAD);
        x.type(0, ';');
        edge.is("12 with a FAULT", x.at(0, 0, 0), BAD);
    }

    // THE ROPE has 24 PLACES, round
    private static void promise12PlacesGoRound() {
        CableCars x = Due.told("as1;xs1;ls1", "", "");
        for (int moment = 0; moment <= 23; moment++) {
            edge.is("12 from 0 in " + moment, x.at(moment, 0, 0), (moment + 1) % 24);
            edge.is("12 from 23 in " + moment, x.at(moment, 1, 0), moment);
            edge.is("12 from 11 in " + moment, x.at(moment, 2, 0), (moment + 12) % 24);
        }
        CableCars y = Due.told("ws1;xs1;us1", "", "3");
        edge.is("12 from 22 by 3", y.at(0, 0, 0), 1);
        edge.is("12 from 23 by 3", y.at(0, 1, 0), 2);
        edge.is("12 from 20 by 3", y.at(0, 2, 0), 23);
        CableCars z = Due.told("as1", "", Edge.times(24, "3"));
        edge.is("12 once round", z.at(7, 0, 0), 0);
        edge.is("12 just not twice", z.at(14, 0, 0), 21);
        edge.is("12 three times round", z.at(23, 0, 0), 0);
    }

    // by how many PLACES it goes in each MOMENT
    private static void promise12ByNoneToThreePlaces() {
        for (int places = 0; places <= 3; places++) {
            CableCars x = Due.told("cs1", "", "1" + places);
            edge.is("12 ahead", x.at(0, 0, 0), 3);
            edge.is("12 by " + places, x.at(1, 0, 0), 3 + places);
            edge.is("12 1 in later ones", x.at(2, 0, 0), 4 + places);
        }
        CableCars last = Due.told("as1", "", Edge.times(23, "0") + "3");
        edge.is("12 the last but one", last.at(22, 0, 0), 0);
        edge.is("12 the last", last.at(23, 0, 0), 3);
    }

    // not at all, if there is a STOP
    private static void promise12StopsAndSpeedNought() {
        for (int places = 0; places <= 3; places++) {
            CableCars x = Due.told("cs1", "", "" + places);
            x.event(1, 0, 0);
            edge.is("12 a STOP, speed " + places, x.at(0, 0, 0), 2);
            edge.is("12 behind it", x.at(1, 0, 0), 3);
        }
        CableCars all = Due.told("xs1", "", "");
        for (int moment = 0; moment < 8; moment++) {
            all.event(1, moment, 0);
        }
        edge.is("12 eight STOPS", all.at(7, 0, 0), 23);
        edge.is("12 behind them", all.at(8, 0, 0), 0);
    }

    private static void insideAndWaiting(String sentence, CableCars x, int moment, int inside, int waiting) {
        edge.is(sentence + ": in it", x.at(moment, 0, 1), inside);
        edge.is(sentence + ": wait", x.waits(moment, 0), waiting);
    }

    // as many of those who wait there get in as it has ROOM
    private static void promise12AsManyAsItHasRoom() {
        insideAndWaiting("12 nobody comes", Due.told("xs4", "", ""), 0, 0, 0);
        insideAndWaiting("12 one", Due.told("xs4", "ab1", ""), 0, 1, 0);
        insideAndWaiting("12 one fewer", Due.told("xs4", "ab3", ""), 0, 3, 0);
        insideAndWaiting("12 as many", Due.told("xs4", "ab4", ""), 0, 4, 0);
        insideAndWaiting("12 one more", Due.told("xs4", "ab5", ""), 0, 4, 1);
        insideAndWaiting("12 the least ROOM", Due.told("xs1", "ab9", ""), 0, 1, 8);
        insideAndWaiting("12 the greatest ROOM", Due.told("xs9", "ab9;ab9", ""), 0, 9, 9);
        insideAndWaiting("12 at the other station", Due.told("xs4", "at9", ""), 0, 0, 0);
        CableCars top = Due.told("ls4", "at5", "");
        edge.is("12 at the top", top.at(0, 0, 1), 4);
        edge.is("12 at the top", top.waits(0, 1), 1);
    }

    // One for goods has ROOM for half of what is told, cut
    private static void promise12HalfForGoods() {
        for (int room = 1; room <= 9; room++) {
            insideAndWaiting("12 goods " + room, Due.told("xg" + room, "ab9", ""), 0, room / 2, 9 - room / 2);
            insideAndWaiting("12 goods, it stands " + room, Due.told("ag" + room, "ab9", "0"), 0, room / 2, 9 - room / 2);
        }
    }

    // one behind another; at each of these CARS that came to a station are SERVED
    private static void promise12ServedOnTheWay() {
        insideAndWaiting("12 by the first of three places", Due.told("xs4", "ab4", "3"), 0, 4, 0);
        insideAndWaiting("12 by the second of three places", Due.told("ws4", "ab4", "3"), 0, 4, 0);
        insideAndWaiting("12 by the third of three places", Due.told("vs4", "ab4", "3"), 0, 4, 0);
        insideAndWaiting("12 a fourth there is not", Due.told("us4", "ab4", "3"), 0, 0, 4);
        insideAndWaiting("12 by the second of two places", Due.told("ws4", "ab4", "2"), 0, 4, 0);
        insideAndWaiting("12 a third there is not", Due.told("vs4", "ab4", "2"), 0, 0, 4);
        insideAndWaiting("12 a second there is not", Due.told("ws4", "ab4", "1"), 0, 0, 4);
        // those that come later in the same moment take those that are left
        CableCars three = Due.told("vs3;ws2;xs1", "ab5", "3");
        edge.is("12 the one ahead on the rope", three.at(0, 2, 1), 1);
        edge.is("12 the next", three.at(0, 1, 1), 2);
        edge.is("12 the last", three.at(0, 0, 1), 2);
    }

    private static void promise12NotServedWhereItSetsOut() {
        for (int places = 1; places <= 3; places++) {
            insideAndWaiting("12 it sets out by " + places, Due.told("as4", "ab4", "" + places), 0, 0, 4);
        }
        CableCars round = Due.told("as4", "ab4", "");
        insideAndWaiting("12 not yet round", round, 22, 0, 4);
        insideAndWaiting("12 round", round, 23, 4, 0);
    }

    // If it does not go .. as many more of those who wait there get in as it has ROOM yet
    private static void promise12MoreGetInWhereItStands() {
        CableCars x = Due.told("as9", "ab8;bb1;cb1", "000");
        insideAndWaiting("12 stands with ROOM for one yet", x, 0, 8, 0);
        insideAndWaiting("12 the last ROOM", x, 1, 9, 0);
        insideAndWaiting("12 no ROOM", x, 2, 9, 1);
        insideAndWaiting("12 one short of the station", Due.told("xs4", "ab4", "0"), 0, 0, 4);
        insideAndWaiting("12 one behind the station", Due.told("bs4", "ab4", "0"), 0, 0, 4);
        insideAndWaiting("12 a STOP", stopped(Due.told("as4", "ab5", "3")), 0, 4, 1);
        CableCars top = Due.told("ls4;ms4;ns4", "at9", "0");
        edge.is("12 one short of the top", top.at(0, 0, 1), 0);
        edge.is("12 at the top", top.at(0, 1, 1), 4);
        edge.is("12 one behind the top", top.at(0, 2, 1), 0);
    }

    private static CableCars stopped(CableCars x) {
        x.event(1, 0, 0);
        return x;
    }

    // If it does not go, nobody gets out
    private static void promise12NobodyGetsOutWhereItStands() {
        // in a gust nobody got out at the top in moment 12; in 13 it stands there
        CableCars x = Due.told("xo4", "ab3;at5", "");
        x.event(0, 12, 0);
        x.event(1, 13, 0);
        edge.is("12 nobody gets out, one gets in", x.at(13, 0, 1), 4);
        edge.is("12 nobody has COME OVER", x.over(1), 0);
        edge.is("12 four wait yet", x.waits(13, 1), 4);
        edge.is("12 it goes on with them", x.at(23, 0, 1), 4);
    }

    // into and out of one that is JAMMED nobody gets
    private static void promise12Jammed() {
        for (int moment = 0; moment <= 1; moment++) {
            CableCars in = Due.told("xs4", "ab4", "");
            in.event(2, moment, 0);
            insideAndWaiting("12 JAMMED from " + moment + " on, into it", in, 0, moment == 0 ? 0 : 4, moment == 0 ? 4 : 0);
        }
        CableCars out = Due.told("xs4", "ab4;at2", "");
        out.event(2, 12, 0);
        edge.is("12 out of it nobody", out.at(12, 0, 1), 4);
        edge.is("12 into it nobody", out.waits(12, 1), 2);
        edge.is("12 to the last", out.at(23, 0, 1), 4);
        CableCars other = Due.told("xs4;ws1", "ab5", "");
        other.event(2, 0, 1);
        edge.is("12 another CAR is not", other.at(0, 0, 1), 4);
        edge.is("12 that one is", other.at(1, 1, 1), 0);
        for (String sort : new String[] {"o", "s", "g"}) {
            CableCars y = Due.told("x" + sort + "4", "ab4", "");
            y.event(2, 0, 0);
            edge.is("12 JAMMED " + sort, y.idle(), 1);
        }
    }

    // nor of an open one in a GUST
    private static void promise12Gust() {
        String[] sorts = {"o", "s", "g"};
        int[] inside = {0, 4, 2};
        for (int i = 0; i < 3; i++) {
            CableCars x = Due.told("x" + sorts[i] + "4", "ab9", "");
            x.event(0, 0, 0);
            edge.is("12 a GUST, into " + sorts[i], x.at(0, 0, 1), inside[i]);
            CableCars y = Due.told("x" + sorts[i] + "4", "ab9", "");
            y.event(0, 12, 0);
            edge.is("12 a GUST, out of " + sorts[i], y.over(1), inside[i]);
        }
        for (int moment = 11; moment <= 13; moment++) {
            CableCars x = Due.told("xo4", "ab4", "");
            x.event(0, moment, 0);
            edge.is("12 a GUST in " + moment, x.at(12, 0, 1), moment == 12 ? 4 : 0);
        }
    }

    private static void promise12GustAndJamWhereItStands() {
        CableCars gust = Due.told("ao4;ms4", "ab9;at9", "00");
        gust.event(0, 0, 0);
        edge.is("12 a GUST where it stands", gust.at(0, 0, 1), 0);
        edge.is("12 a shut one", gust.at(0, 1, 1), 4);
        edge.is("12 behind the GUST", gust.at(1, 0, 1), 4);
        CableCars jam = Due.told("as4;ms4", "ab9;at9", "00");
        jam.event(2, 1, 0);
        jam.event(2, 0, 1);
        edge.is("12 not yet JAMMED", jam.at(0, 0, 1), 4);
        edge.is("12 JAMMED where it stands", jam.at(1, 1, 1), 0);
    }

    private static void promise12WhatIsToldLaterHolds() {
        CableCars x = new CableCars();
        edge.is("12 nothing told", x.waits(23, 0), 0);
        Due.typeAll(x, 1, "ab4");
        edge.is("12 COMINGS", x.waits(23, 0), 4);
        Due.typeAll(x, 0, "xo4");
        edge.is("12 a CAR", x.over(1), 4);
        edge.is("12 a CAR", x.at(0, 0, 0), 0);
        Due.typeAll(x, 2, "0");
        edge.is("12 THE SPEED", x.at(0, 0, 0), 23);
        edge.is("12 THE SPEED", x.at(1, 0, 1), 4);
        x.event(0, 1, 0);
        edge.is("12 an EVENT", x.at(1, 0, 1), 0);
        x.back();
        edge.is("12 none", x.at(1, 0, 1), 4);
        Edge.putAll(x, 0, 0, 2, 1, 0);
        x.read(0);
        edge.is("12 EVENTS of a SHEET", x.at(1, 0, 1), 0);
        edge.is("12 IDLE", x.idle(), 1);
    }

    private static void promise12WhatIsUndoneDoesNot() {
        CableCars x = Due.told("xs4;ws4;ls4", "ab9;at4", "2");
        edge.is("12 three CARS", x.waits(0, 0), 1);
        for (int i = 0; i < 4; i++) {
            x.undo(0);
        }
        edge.is("12 two CARS", x.waits(0, 1), 4);
        edge.is("12 two CARS", x.waits(0, 0), 1);
        for (int i = 0; i < 4; i++) {
            x.undo(0);
        }
        edge.is("12 one CAR", x.waits(0, 0), 5);
        x.undo(0);
        edge.is("12 a FAULT, no CARS", x.waits(0, 0), 9);
        x.wipe(1);
        edge.is("12 no COMINGS", x.waits(0, 0), 0);
        x.wipe(2);
        Due.typeAll(x, 0, "1");
        edge.is("12 no SPEED told", x.at(0, 0, 0), 0);
    }

    // 13: BAD
    private static void promise13Numbers() {
        edge.range("13 MOMENT", 0, 23, (x, moment) -> x.waits(moment, 0));
        edge.range("13 what", 0, 3, (x, what) -> x.waits(23, what));
        edge.refusedWhenNew("13 MOMENT -1", x -> x.waits(-1, 0), BAD);
        edge.refusedWhenNew("13 MOMENT 24", x -> x.waits(24, 0), BAD);
        edge.refusedWhenNew("13 what -1", x -> x.waits(0, -1), BAD);
        edge.refusedWhenNew("13 what 4", x -> x.waits(0, 4), BAD);
    }

    // In a MOMENT first COMINGS of it come to their stations
    private static void promise13ComingsComeFirst() {
        // it comes to the bottom in moment 5
        String[] letters = {"e", "f", "g"};
        for (int i = 0; i < 3; i++) {
            CableCars x = Due.told("ss4", letters[i] + "b4", "");
            edge.is("13 they come in " + (4 + i) + ", it in 5", x.at(5, 0, 1), i < 2 ? 4 : 0);
            for (int moment = 0; moment <= 7; moment++) {
                boolean wait = moment >= 4 + i && (moment < 5 || i == 2);
                edge.is("13 they wait behind " + moment, x.waits(moment, 0), wait ? 4 : 0);
            }
        }
        CableCars last = Due.told("as4", "xb5;xt2", "");
        edge.is("13 behind 22", last.waits(22, 0) + last.waits(22, 1), 0);
        edge.is("13 behind 23, one has no ROOM", last.waits(23, 0), 1);
        edge.is("13 behind 23", last.waits(23, 1), 2);
    }

    private static void promise13NobodyAndMost() {
        CableCars none = Due.told(Edge.SIX_CARS, "", Edge.ALL_SPEED);
        CableCars most = Due.told("", Edge.times(11, "ab9;") + "ab9", "");
        CableCars both = Due.told("", Edge.times(6, "ab9;") + Edge.times(5, "at9;") + "xt9", "");
        for (int moment = 0; moment <= 23; moment++) {
            for (int what = 0; what <= 3; what++) {
                edge.is("13 nobody", none.waits(moment, what), 0);
                edge.is("13 108 at the bottom", most.waits(moment, what), what == 0 ? 108 : 0);
            }
            edge.is("13 54 at the bottom", both.waits(moment, 0), 54);
            edge.is("13 54 at the top", both.waits(moment, 1), moment < 23 ? 45 : 54);
        }
    }

    private static void promise13InAllCars() {
        // six stand as they come by: each takes nine
        CableCars x = Due.told("xs9;ws9;vs9;us9;ts9;ss9", Edge.times(6, "ab9;") + "ab1", "");
        for (int moment = 0; moment <= 5; moment++) {
            edge.is("13 in all CARS", x.waits(moment, 2), 9 * moment + 9);
            edge.is("13 wait", x.waits(moment, 0), 46 - 9 * moment);
        }
        edge.is("13 no CAR more", x.waits(11, 2), 54);
        edge.is("13 the first is at the top", x.waits(12, 2), 45);
        edge.is("13 the last is at the top", x.waits(17, 2), 0);
    }

    // as many as are in CARS that go up on it (from 0 to 1 .. from 11 to 12), less those in CARS that go down
    private static void promise13PowerUpAndDown() {
        CableCars x = Due.told("xs4", "ab4;at3", "");
        edge.is("13 from 23 to 0", x.waits(0, 3), 0);
        edge.is("13 from 0 to 1", x.waits(1, 3), 4);
        edge.is("13 from 11 to 12", x.waits(12, 3), 4);
        edge.is("13 from 12 to 13", x.waits(13, 3), 0);
        // car 1 goes down from moment 1 on, and comes to the bottom in 12
        CableCars y = Due.told("xs4;ls3", "ab4;at3", "");
        edge.is("13 from 12 to 13 at the same time", y.waits(1, 3), 1);
        edge.is("13 from 23 to 0 at the same time", y.waits(12, 3), 1);
        // car 1 is a place behind: it goes from 12 to 13 in moment 2, from 23 to 0 in moment 13
        CableCars z = Due.told("xs4;ks3", "ab4;at3", "");
        edge.is("13 from 0 to 1, nobody goes down", z.waits(1, 3), 4);
        edge.is("13 from 12 to 13", z.waits(2, 3), 1);
        edge.is("13 from 11 to 12", z.waits(12, 3), 1);
        edge.is("13 down alone", z.waits(13, 3), 0);
    }

    // 0 at least
    private static void promise13PowerNoughtAtLeast() {
        edge.is("13 one more up", Due.told("xs4;ls3", "ab9;at9", "").waits(1, 3), 1);
        edge.is("13 as many", Due.told("xs4;ls4", "ab9;at9", "").waits(1, 3), 0);
        edge.is("13 one more down", Due.told("xs4;ls5", "ab9;at9", "").waits(1, 3), 0);
        // behind moment 0 one goes down with nine, another gets up four in the second place of moment 1: -9, then -5
        CableCars x = Due.told("ls9;vs4", "at9;bb4", "12");
        edge.is("13 below 0 in each place", x.waits(1, 3), 0);
    }

    // By each PLACE that the ROPE goes on: 0 at least by each, not by the MOMENT
    private static void promise13PowerByEachPlace() {
        // nine go down and come to the bottom by the first place of moment 12; four go up behind it
        CableCars x = Due.told("ls9;ws4", "at9;bb4", "111111111111" + "3");
        edge.is("13 -5, then 4: not -1", x.waits(12, 3), 4);
        for (int places = 0; places <= 3; places++) {
            CableCars y = Due.told("xs4", "ab4", "1" + places);
            edge.is("13 " + places + " places", y.waits(1, 3), 4 * places);
        }
        CableCars stop = Due.told("xs4", "ab4", "13");
        stop.event(1, 1, 0);
        edge.is("13 a STOP takes none", stop.waits(1, 3), 0);
        edge.is("13 behind it", stop.waits(2, 3), 4);
        CableCars top = Due.told("xs4", "ab4", "1333" + "2" + "3");
        edge.is("13 to the top by the first of three", top.waits(5, 3), 4);
    }

    private static void promise13TheGreatestPower() {
        CableCars x = Due.told("xs9;ws9;vs9;us9;ts9;ss9", Edge.times(6, "ab9;") + "ab1", "1111113");
        edge.is("13 six go up with nine each by three places", x.waits(6, 3), 162);
    }

    // 14: BAD
    private static void promise14Station() {
        edge.range("14 station", 0, 1, (x, station) -> x.over(station));
        edge.refusedWhenNew("14 station -1", x -> x.over(-1), BAD);
        edge.refusedWhenNew("14 station 2", x -> x.over(2), BAD);
    }

    /** It waits at the bottom for so many MOMENTS, four get in in the first; then it goes. */
    private static CableCars late(int moments) {
        return Due.told("as4", "ab4", Edge.times(moments, "0"));
    }

    // by MOMENT 23
    private static void promise14ByMomentTwentyThree() {
        edge.is("14 in 22", late(11).over(1), 4);
        edge.is("14 in 23", late(12).over(1), 4);
        edge.is("14 it would be in 24", late(13).over(1), 0);
        edge.is("14 never", late(24).over(1), 0);
    }

    private static void promise14EitherStation() {
        CableCars nobody = new CableCars();
        edge.is("14 nobody to the bottom", nobody.over(0), 0);
        edge.is("14 nobody to the top", nobody.over(1), 0);
        CableCars down = Due.told("ls4", "at4", "");
        edge.is("14 down", down.over(0), 4);
        edge.is("14 not up", down.over(1), 0);
        // in a gust they did not get out at the top: at the bottom they do
        CableCars round = Due.told("xo4", "ab4", "1" + Edge.times(8, "3"));
        round.event(0, 4, 0);
        edge.is("14 back to the bottom", round.over(0), 4);
        edge.is("14 not to the top", round.over(1), 0);
    }

    // 15: POWER of all MOMENTS
    private static void promise15Sum() {
        edge.is("15 none", new CableCars().sum(), 0);
        edge.is("15 nobody", Due.told(Edge.SIX_CARS, "", Edge.ALL_SPEED).sum(), 0);
        edge.is("15 in MOMENT 0", Due.told("xs9", "ab9", "2" + Edge.times(23, "0")).sum(), 9);
        edge.is("15 in MOMENT 23", Due.told("as9", "ab9", Edge.times(23, "0") + "1").sum(), 9);
        edge.is("15 to the top in 23", late(12).sum(), 48);
        edge.is("15 one place short", late(13).sum(), 44);
        edge.is("15 they stand", late(24).sum(), 0);
        CableCars x = Edge.full();
        int all = 0;
        for (int moment = 0; moment <= 23; moment++) {
            all += x.waits(moment, 3);
        }
        edge.is("15 of all MOMENTS", x.sum(), all);
    }

    // 16: BAD
    private static void promise16Numbers() {
        edge.range("16 station", 0, 1, (x, station) -> x.crowd(station, 0));
        edge.range("16 what", 0, 1, (x, what) -> x.crowd(1, what));
        edge.refusedWhenNew("16 station 2", x -> x.crowd(2, 0), BAD);
        edge.refusedWhenNew("16 what 2", x -> x.crowd(0, 2), BAD);
    }

    private static void crowdIs(String sentence, CableCars x, int station, int moment, int many) {
        edge.is("16 " + sentence + ": when", x.crowd(station, 0), moment);
        edge.is("16 " + sentence + ": how many", x.crowd(station, 1), many);
    }

    // of like ones the least
    private static void promise16OfLikeOnesTheLeast() {
        crowdIs("from 3 on", Due.told("", "db2", ""), 0, 3, 2);
        // four get in behind 7, as many come again in 9
        CableCars x = Due.told("qs4", "bb4;jb4", "");
        crowdIs("as many again", x, 0, 1, 4);
        crowdIs("one more later", Due.told("qs4", "bb4;jb5", ""), 0, 9, 5);
        crowdIs("one fewer later", Due.told("qs4", "bb4;jb3", ""), 0, 1, 4);
    }

    private static void promise16NobodyAndMost() {
        crowdIs("nobody, bottom", new CableCars(), 0, 0, 0);
        crowdIs("nobody, top", new CableCars(), 1, 0, 0);
        crowdIs("108", Due.told("", Edge.times(11, "ft9;") + "ft9", ""), 1, 5, 108);
        crowdIs("nobody at the other", Due.told("", Edge.times(11, "ft9;") + "ft9", ""), 0, 0, 0);
        crowdIs("behind a MOMENT, not in it", Due.told("xs4", "ab4", ""), 0, 0, 0);
    }

    private static void promise16FirstAndLastMoment() {
        crowdIs("in 0", Due.told("", "at3", ""), 1, 0, 3);
        crowdIs("in 23", Due.told("", "at3;xt1", ""), 1, 23, 4);
        crowdIs("in 23, bottom", Due.told("", "xb1", ""), 0, 23, 1);
        crowdIs("in 22", Due.told("as4", "wb1", ""), 0, 22, 1);
    }

    // 17: BAD
    private static void promise17Numbers() {
        edge.range("17 what", 0, 1, (x, what) -> x.first(what));
        edge.refusedWhenNew("17 what -1", x -> x.first(-1), BAD);
        edge.refusedWhenNew("17 what 2", x -> x.first(2), BAD);
    }

    private static void firstIs(String sentence, CableCars x, int moment, int car) {
        edge.is("17 " + sentence + ": the MOMENT", x.first(0), moment);
        edge.is("17 " + sentence + ": the CAR", x.first(1), car);
    }

    // 17: NONE
    private static void promise17None() {
        firstIs("no CARS", new CableCars(), NONE, NONE);
        firstIs("nobody", Due.told(Edge.SIX_CARS, "", Edge.ALL_SPEED), NONE, NONE);
        firstIs("nobody gets in", Due.told("xg1", "ab9", ""), NONE, NONE);
        firstIs("they get in, not out", late(24), NONE, NONE);
        CableCars x = Due.told("bs1;xs4", "ab4", "");
        firstIs("there was one", x, 12, 1);
        x.event(2, 12, 1);
        firstIs("now there is none", x, NONE, NONE);
    }

    private static void promise17EarliestAndLatest() {
        firstIs("one alone", Due.told("xs4", "ab1", ""), 12, 0);
        firstIs("as fast as it goes", Due.told("xs4", "ab4", "33333"), 4, 0);
        firstIs("in 22", late(11), 22, 0);
        firstIs("in 23", late(12), 23, 0);
        firstIs("not in 24", late(13), NONE, NONE);
        firstIs("to the bottom", Due.told("ls4", "at4", ""), 12, 0);
    }

    // the first CAR of it
    private static void promise17TheFirstCar() {
        firstIs("both stations at once: by numbers", Due.told("xs4;ls4", "ab4;at4", ""), 12, 0);
        firstIs("both stations at once: by numbers", Due.told("ls4;xs4", "ab4;at4", ""), 12, 0);
        firstIs("an empty one does not count", Due.told("xs4;ls4", "at4", ""), 12, 1);
        firstIs("the sixth", Due.told("bs1;cs1;ds1;es1;fs1;xs4", "ab4", ""), 12, 5);
        // car 0 comes a place behind car 1, in the same moment
        firstIs("a place ahead in the same MOMENT", Due.told("ws4;xs4", "ab8", "23333"), 4, 1);
    }

    // 18: BAD
    private static void promise18Numbers() {
        edge.range("18 CAR, six of them", 0, 5, (x, car) -> x.carried(car));
        edge.refusedWhenNew("18 no CARS", x -> x.carried(0), BAD);
        CableCars x = Due.told("xs4;ls4", "", "");
        edge.is("18 the last", x.carried(1), 0);
        edge.is("18 one more", x.carried(2), BAD);
    }

    // how many got out of it in all
    private static void promise18GotOut() {
        edge.is("18 in 23", late(12).carried(0), 4);
        edge.is("18 in it yet", late(13).carried(0), 0);
        CableCars x = Due.told("xs9", Edge.times(6, "ab9;") + Edge.times(5, "at9;") + "at9", Edge.times(24, "3"));
        // stations in moments 0, 4, 8, 12, 16, 20: out of it at five of them
        edge.is("18 again and again", x.carried(0), 45);
        edge.is("18 as many have COME OVER", x.over(0) + x.over(1), 45);
        edge.is("18 JAMMED", jammed().carried(0), 0);
    }

    private static CableCars jammed() {
        CableCars x = Due.told("xs4", "ab4", "");
        x.event(2, 12, 0);
        return x;
    }

    // 19: as bits
    private static void promise19Bits() {
        edge.is("19 no CARS", new CableCars().idle(), 0);
        String[] cars = {"bs1", "cs1", "ds1", "es1", "fs1", "gs1"};
        StringBuilder told = new StringBuilder();
        for (int n = 1; n <= 6; n++) {
            told.append(n == 1 ? "" : ";").append(cars[n - 1]);
            edge.is("19 all of " + n, Due.told(told.toString(), "", "").idle(), (1 << n) - 1);
        }
        for (int used = 0; used < 6; used++) {
            char[] text = told.toString().toCharArray();
            text[4 * used] = 'x';
            edge.is("19 but " + used, Due.told(new String(text), "ab1", "").idle(), 63 & ~(1 << used));
        }
    }

    // CARS that nobody ever got into
    private static void promise19NobodyEver() {
        edge.is("19 in 23", Due.told("as1", "xb1", "").idle(), 0);
        edge.is("19 one place short in 23", Due.told("as1", "xb1", "0").idle(), 1);
        edge.is("19 in 0, where it stands", Due.told("as1", "ab1", Edge.times(24, "0")).idle(), 0);
        edge.is("19 in it yet", late(13).idle(), 0);
        CableCars again = Due.told("xs4", "ab1", "");
        edge.is("19 one got in", again.idle(), 0);
        again.wipe(1);
        edge.is("19 nobody comes now", again.idle(), 1);
        edge.is("19 goods, ROOM 1", Due.told("xg1", "ab9", "").idle(), 1);
        edge.is("19 goods, ROOM 2", Due.told("xg2", "ab9", "").idle(), 0);
    }

    // 20: who have come by MOMENT 23, and have not COME OVER
    private static void promise20NobodyAndMost() {
        edge.is("20 nobody", new CableCars().left(), 0);
        edge.is("20 108", Due.told("", Edge.times(11, "xt9;") + "ab9", "").left(), 108);
        edge.is("20 in 23", Due.told("", "xb1", "").left(), 1);
        edge.is("20 all have COME OVER", Due.told("xs9", "ab9", "").left(), 0);
        edge.is("20 one has not", Due.told("xs8", "ab9", "").left(), 1);
    }

    private static void promise20InACarOrWaiting() {
        edge.is("20 over in 23", late(12).left(), 0);
        edge.is("20 in a CAR", late(13).left(), 4);
        edge.is("20 in a JAMMED one", jammed().left(), 4);
        CableCars x = Edge.full();
        edge.is("20 wait or are in CARS", x.left(), x.waits(23, 0) + x.waits(23, 1) + x.waits(23, 2));
    }
}

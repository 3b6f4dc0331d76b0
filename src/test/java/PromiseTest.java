import java.util.ArrayList;
import java.util.List;
import java.util.Random;

/** Each promise of the document by its number: ordinary inputs, edges, wrong inputs; all due answers worked out by hand. */
public final class PromiseTest {
    private static final Due due = new Due("PromiseTest");
    private static final int BAD = -2, NOT = -3, FULL = -4, NONE = -1;
    private static final int NULL = -11, INDEX = -12, CAST = -13, STORE = -14, SIZE = -15;
    private static final int MIN = Integer.MIN_VALUE, MAX = Integer.MAX_VALUE;
    /** Comes to the bottom in moment 0, to the top in 12, hangs at 23 behind 23; one place in each moment. */
    private static final String CAR = "xo4", PEOPLE = "ab6;at3";

    public static void main(String[] args) {
        newObject();
        type();
        wipe();
        undo();
        faultOfCars();
        faultOfComings();
        faultOfSpeed();
        car();
        coming();
        speed();
        event();
        back();
        read();
        at();
        waits();
        over();
        sum();
        crowd();
        first();
        carried();
        idle();
        left();
        goods();
        gusts();
        stops();
        jams();
        powerOfManyCars();
        hang();
        pace();
        cheap();
        spare();
        seen();
        forget();
        never();
        was();
        ask();
        chance();
        years();
        sheet();
        lose();
        put();
        get();
        copy();
        write();
        count();
        digest();
        due.end();
    }

    private static CableCars one() {
        return Due.told(CAR, PEOPLE, "");
    }

    // 1
    private static void newObject() {
        CableCars x = new CableCars();
        for (int what = 0; what <= 8; what++) {
            due.is("1 count " + what, x.count(what), 0);
        }
        for (int text = 0; text <= 2; text++) {
            due.is("1 fault " + text, x.fault(text), NONE);
        }
        for (int s = 0; s <= 3; s++) {
            due.is("1 sheet lost " + s, x.lose(s), NULL);
        }
        for (int moment = 0; moment <= 23; moment++) {
            due.is("1 speed " + moment, x.speed(moment), 1);
            due.is("1 nobody waits", x.waits(moment, 0) + x.waits(moment, 1) + x.waits(moment, 2) + x.waits(moment, 3), 0);
        }
        for (int i = 0; i <= 11; i++) {
            due.is("1 coming " + i, x.coming(i, 0), NONE);
        }
        due.is("1 no car", x.car(0, 0), BAD);
        due.is("1 back", x.back(), NOT);
        due.is("1 constants", CableCars.NONE * 1000 + CableCars.BAD * 100 + CableCars.NOT * 10 + CableCars.FULL, -1234);
    }

    // 2
    private static void type() {
        CableCars x = new CableCars();
        due.is("2 type", x.type(0, 0), 1);
        due.is("2 type", x.type(0, 255), 2);
        due.is("2 other text", x.type(1, 97), 1);
        due.is("2 below", x.type(0, -1), BAD);
        due.is("2 above", x.type(0, 256), BAD);
        due.is("2 least", x.type(0, MIN), BAD);
        due.is("2 text -1", x.type(-1, 97), BAD);
        due.is("2 text 3", x.type(3, 97), BAD);
        due.is("2 nothing changed", x.count(3), 2);
        int[] limits = {23, 47, 24};
        for (int text = 0; text < 3; text++) {
            CableCars y = new CableCars();
            for (int i = 1; i <= limits[text]; i++) {
                due.is("2 text " + text, y.type(text, 48), i);
            }
            due.is("2 full " + text, y.type(text, 48), FULL);
            due.is("2 BAD ahead of FULL", y.type(text, 256), BAD);
            due.is("2 full stays", y.count(3 + text), limits[text]);
            due.is("2 space again", y.undo(text), limits[text] - 1);
            due.is("2 full again", y.type(text, 48), limits[text]);
        }
    }

    // 3
    private static void wipe() {
        CableCars x = Due.told("ao4", "ab6;at3", "3");
        due.is("3 comings", x.wipe(1), 7);
        due.is("3 comings are gone", x.coming(0, 0), NONE);
        due.is("3 again", x.wipe(1), 0);
        due.is("3 cars stay", x.count(0), 1);
        due.is("3 cars", x.wipe(0), 3);
        due.is("3 cars are gone", x.car(0, 0), BAD);
        due.is("3 speed stays", x.speed(0), 3);
        due.is("3 speed", x.wipe(2), 1);
        due.is("3 speed is gone", x.speed(0), 1);
        due.is("3 -1", x.wipe(-1), BAD);
        due.is("3 3", x.wipe(3), BAD);
        CableCars y = Due.told("ao44", "", "");
        due.is("3 with a fault", y.wipe(0), 4);
        due.is("3 well", y.fault(0), NONE);
    }

    // 4
    private static void undo() {
        CableCars x = Due.told("ao4;", "ab6", "30");
        due.is("4 a fault", x.fault(0), 4);
        due.is("4 undo", x.undo(0), 3);
        due.is("4 well", x.fault(0), NONE);
        due.is("4 a car", x.car(0, 2), 4);
        due.is("4 undo", x.undo(0), 2);
        due.is("4 no car", x.car(0, 2), BAD);
        due.is("4 undo", x.undo(0), 1);
        due.is("4 undo", x.undo(0), 0);
        due.is("4 empty", x.undo(0), NOT);
        due.is("4 speed", x.undo(2), 1);
        due.is("4 speed", x.speed(1), 1);
        due.is("4 comings", x.undo(1), 2);
        due.is("4 comings", x.count(1), 0);
        due.is("4 -1", x.undo(-1), BAD);
        due.is("4 3", x.undo(3), BAD);
    }

    private static void faultIs(int text, String bytes, int want) {
        CableCars x = new CableCars();
        Due.typeAll(x, text, bytes);
        due.is("5 fault of '" + bytes + "'", x.fault(text), want);
    }

    // 5
    private static void faultOfCars() {
        faultIs(0, "", NONE);
        faultIs(0, "a", 1);
        faultIs(0, "y", 0);
        faultIs(0, "A", 0);
        faultIs(0, "`", 0);
        faultIs(0, ";", 0);
        faultIs(0, "x", 1);
        faultIs(0, "ab", 1);
        faultIs(0, "ao", 2);
        faultIs(0, "ag", 2);
        faultIs(0, "as", 2);
        faultIs(0, "aO", 1);
        faultIs(0, "ao0", 2);
        faultIs(0, "ao:", 2);
        faultIs(0, "ao1", NONE);
        faultIs(0, "xg9", NONE);
        faultIs(0, "ao1;", 4);
        faultIs(0, "ao1,", 3);
        faultIs(0, "ao10", 3);
        faultIs(0, "ao1;;", 4);
        faultIs(0, "ao1;a", 4);
        faultIs(0, "ao1;b", 5);
        faultIs(0, "ao1;bs2;ag3", 8);
        faultIs(0, "ao1;bs2;bg3", 8);
        faultIs(0, "ao1;bz2;ag3", 5);
        faultIs(0, "ao1;bs2;cg3;do4;es5;fg6", NONE);
        faultIs(0, "ao1;bs2;cg3;do4;es5;ag6", 20);
        CableCars x = new CableCars();
        due.is("5 -1", x.fault(-1), BAD);
        due.is("5 3", x.fault(3), BAD);
        due.is("5 least", x.fault(MIN), BAD);
        x.type(0, 'a');
        x.type(0, 'o' + 128);
        due.is("5 high byte", x.fault(0), 1);
    }

    // 5
    private static void faultOfComings() {
        faultIs(1, "", NONE);
        faultIs(1, "a", 1);
        faultIs(1, "y", 0);
        faultIs(1, "ac", 1);
        faultIs(1, "ao1", 1);
        faultIs(1, "at0", 2);
        faultIs(1, "at1", NONE);
        faultIs(1, "xb9", NONE);
        faultIs(1, "at1;at1", NONE);
        faultIs(1, "at1;", 4);
        faultIs(1, "at1b", 3);
        faultIs(1, "at1;ab1;at1;ab1;at1;ab1;at1;ab1;at1;ab1;at1;ab1", NONE);
        faultIs(1, "at1;ab1;at1;ab1;at1;ab1;at1;ab1;at1;ab1;at1;ab", 46);
    }

    // 5
    private static void faultOfSpeed() {
        faultIs(2, "", NONE);
        faultIs(2, "0", NONE);
        faultIs(2, "3", NONE);
        faultIs(2, "4", 0);
        faultIs(2, "/", 0);
        faultIs(2, "0123;", 4);
        faultIs(2, "012301230123012301230123", NONE);
        faultIs(2, "01230123012301230123012a", 23);
    }

    // 6
    private static void car() {
        CableCars x = Due.told("xo4;lg9;as1", "", "");
        int[] want = {23, 0, 4, 11, 2, 9, 0, 1, 1};
        for (int i = 0; i < 9; i++) {
            due.is("6 car " + i / 3 + ", " + i % 3, x.car(i / 3, i % 3), want[i]);
        }
        due.is("6 car 3", x.car(3, 0), BAD);
        due.is("6 car -1", x.car(-1, 0), BAD);
        due.is("6 what 3", x.car(0, 3), BAD);
        due.is("6 what -1", x.car(0, -1), BAD);
        x.type(0, ';');
        due.is("6 as if empty", x.car(0, 0), BAD);
        due.is("6 greatest", x.car(MAX, 0), BAD);
    }

    // 7
    private static void coming() {
        CableCars x = Due.told("", "ab6;xt3;xt9", "");
        int[] want = {0, 0, 6, 23, 1, 3, 23, 1, 9};
        for (int i = 0; i < 9; i++) {
            due.is("7 coming " + i / 3 + ", " + i % 3, x.coming(i / 3, i % 3), want[i]);
        }
        due.is("7 none", x.coming(3, 0), NONE);
        due.is("7 none", x.coming(11, 2), NONE);
        due.is("7 12", x.coming(12, 0), BAD);
        due.is("7 -1", x.coming(-1, 0), BAD);
        due.is("7 what", x.coming(0, 3), BAD);
        due.is("7 what of none", x.coming(11, 3), BAD);
        due.is("7 what", x.coming(0, -1), BAD);
        x.type(1, 'a');
        due.is("7 as if empty", x.coming(0, 0), NONE);
    }

    // 8
    private static void speed() {
        CableCars x = Due.told("", "", "3021");
        int[] want = {3, 0, 2, 1, 1, 1};
        for (int i = 0; i < 6; i++) {
            due.is("8 speed " + i, x.speed(i), want[i]);
        }
        x.event(1, 0, 0);
        due.is("8 as told, though there is a stop", x.speed(0), 3);
        due.is("8 23", x.speed(23), 1);
        due.is("8 24", x.speed(24), BAD);
        due.is("8 -1", x.speed(-1), BAD);
        x.type(2, '4');
        due.is("8 as if empty", x.speed(0), 1);
        CableCars y = Due.told("", "", "000000000000000000000003");
        due.is("8 last figure", y.speed(23), 3);
    }

    // 9
    private static void event() {
        CableCars x = new CableCars();
        int[][] bad = {{-1, 0, 0}, {3, 0, 0}, {0, -1, 0}, {0, 24, 0}, {0, 0, -1}, {0, 0, 6}, {1, 0, 6}, {2, 0, 6}};
        for (int[] b : bad) {
            due.is("9 bad", x.event(b[0], b[1], b[2]), BAD);
        }
        due.is("9 none", x.count(6), 0);
        int[][] well = {{0, 0, 0}, {1, 23, 5}, {2, 0, 5}, {2, 0, 5}, {0, 0, 0}, {1, 1, 1}, {2, 2, 2}, {0, 23, 3}};
        for (int i = 0; i < 8; i++) {
            due.is("9 event", x.event(well[i][0], well[i][1], well[i][2]), i + 1);
        }
        due.is("9 full", x.event(0, 0, 0), FULL);
        due.is("9 BAD ahead of FULL", x.event(3, 0, 0), BAD);
        due.is("9 full stays", x.count(6), 8);
    }

    // 10
    private static void back() {
        CableCars x = one();
        due.is("10 none", x.back(), NOT);
        x.event(1, 0, 0);
        x.event(2, 0, 0);
        due.is("10 jammed", x.over(1), 0);
        due.is("10 back", x.back(), 1);
        due.is("10 no longer jammed", x.over(1), 4);
        due.is("10 still stopped", x.at(0, 0, 0), 23);
        due.is("10 back", x.back(), 0);
        due.is("10 goes", x.at(0, 0, 0), 0);
        due.is("10 none", x.back(), NOT);
    }

    private static void putAll(CableCars x, int s, int form, int... items) {
        x.sheet(s, form, items.length);
        for (int i = 0; i < items.length; i++) {
            x.put(s, form, i, items[i]);
        }
    }

    // 11
    private static void read() {
        CableCars x = one();
        due.is("11 -1", x.read(-1), BAD);
        due.is("11 4", x.read(4), BAD);
        due.is("11 lost", x.read(0), NULL);
        due.is("11 finding", x.count(8), 1);
        putAll(x, 0, 0, 1, 0, 0, 2, 0);
        due.is("11 whole ones alone", x.read(0), 1);
        due.is("11 one", x.count(6), 1);
        due.is("11 it holds", x.at(0, 0, 0), 23);
        putAll(x, 1, 1, 0, 1, 0, 0, 24, 0, 0, 2, 0);
        due.is("11 up to one that may not be", x.read(1), 1);
        due.is("11 they come behind", x.count(6), 2);
        CableCars third = one();
        putAll(third, 0, 2, 1, 20, 5, 2, 0, 1, 2, 0, 0);
        due.is("11 each to the last", third.read(0), 3);
        due.is("11 the third holds", third.over(1), 0);
        third.back();
        due.is("11 the second is of no car", third.over(1), 4);
        putAll(x, 2, 2, -1, 0, 0);
        due.is("11 none may be", x.read(2), 0);
        x.sheet(3, 2, 0);
        due.is("11 empty", x.read(3), 0);
        x.sheet(3, 2, 60);
        due.is("11 up to eight", x.read(3), 6);
        due.is("11 eight", x.count(6), 8);
        due.is("11 full", x.read(3), 0);
        CableCars y = new CableCars();
        y.sheet(3, 0, 2);
        due.is("11 not a whole one", y.read(3), 0);
        y.sheet(3, 0, 60);
        due.is("11 eight of twenty", y.read(3), 8);
    }

    // 12
    private static void at() {
        CableCars x = one();
        for (int moment = 0; moment <= 23; moment++) {
            due.is("12 place " + moment, x.at(moment, 0, 0), moment);
            due.is("12 inside " + moment, x.at(moment, 0, 1), moment < 12 ? 4 : 3);
        }
        due.is("12 moment", x.at(24, 0, 0), BAD);
        due.is("12 moment", x.at(-1, 0, 0), BAD);
        due.is("12 car", x.at(0, 1, 0), BAD);
        due.is("12 car", x.at(0, -1, 0), BAD);
        due.is("12 what", x.at(0, 0, 2), BAD);
        due.is("12 what", x.at(0, 0, -1), BAD);
        CableCars y = Due.told("ws4;bs1", "ab2", "3");
        due.is("12 served as it goes by", y.at(0, 0, 1), 2);
        due.is("12 it goes on", y.at(0, 0, 0), 1);
        due.is("12 another", y.at(0, 1, 0), 4);
        due.is("12 leaves", Due.told("as4", "ab2", "").at(0, 0, 1), 0);
        due.is("12 round", Due.told("xs4", "", "2").at(0, 0, 0), 1);
    }

    // 13
    private static void waits() {
        CableCars x = one();
        for (int moment = 0; moment <= 23; moment++) {
            due.is("13 bottom " + moment, x.waits(moment, 0), 2);
            due.is("13 top " + moment, x.waits(moment, 1), moment < 12 ? 3 : 0);
            due.is("13 inside " + moment, x.waits(moment, 2), moment < 12 ? 4 : 3);
            due.is("13 power " + moment, x.waits(moment, 3), moment >= 1 && moment <= 12 ? 4 : 0);
        }
        due.is("13 moment", x.waits(24, 0), BAD);
        due.is("13 moment", x.waits(-1, 0), BAD);
        due.is("13 what", x.waits(0, 4), BAD);
        due.is("13 what", x.waits(0, -1), BAD);
        CableCars y = Due.told("", "xb9;xb8;xt1", "");
        due.is("13 ahead of it", y.waits(22, 0), 0);
        due.is("13 both come", y.waits(23, 0), 17);
        due.is("13 top", y.waits(23, 1), 1);
    }

    // 14
    private static void over() {
        CableCars x = one();
        due.is("14 bottom", x.over(0), 0);
        due.is("14 top", x.over(1), 4);
        due.is("14 -1", x.over(-1), BAD);
        due.is("14 2", x.over(2), BAD);
        Due.typeAll(x, 2, "12");
        due.is("14 bottom in time", x.over(0), 3);
        due.is("14 top", x.over(1), 4);
    }

    // 15
    private static void sum() {
        due.is("15 sum", one().sum(), 48);
        due.is("15 moment 0 too", Due.told("ws4", "ab4", "3").sum(), 48);
        due.is("15 moment 0 too", Due.told("ws4", "ab4", "3").waits(0, 3), 4);
        due.is("15 without people", Due.told(CAR, "", "").sum(), 0);
        due.is("15 three in a moment", Due.told("xo4", "ab4", "13").sum(), 48);
        due.is("15 down takes none", Due.told("ls9", "at9", "").sum(), 0);
    }

    // 16
    private static void crowd() {
        CableCars x = Due.told("xo4", "bb3;ct5;fb4;gt3", "");
        due.is("16 bottom when", x.crowd(0, 0), 5);
        due.is("16 bottom", x.crowd(0, 1), 7);
        due.is("16 top when", x.crowd(1, 0), 6);
        due.is("16 top", x.crowd(1, 1), 8);
        due.is("16 the least of like ones", Due.told("", "bb3", "").crowd(0, 0), 1);
        due.is("16 nobody", new CableCars().crowd(1, 0), 0);
        due.is("16 behind the moment", one().crowd(0, 1), 2);
        due.is("16 station", x.crowd(2, 0), BAD);
        due.is("16 station", x.crowd(-1, 0), BAD);
        due.is("16 what", x.crowd(0, 2), BAD);
        due.is("16 what", x.crowd(0, -1), BAD);
    }

    // 17
    private static void first() {
        CableCars x = one();
        due.is("17 moment", x.first(0), 12);
        due.is("17 car", x.first(1), 0);
        due.is("17 2", x.first(2), BAD);
        due.is("17 -1", x.first(-1), BAD);
        due.is("17 none", new CableCars().first(0), NONE);
        due.is("17 none", new CableCars().first(1), NONE);
        CableCars y = Due.told("xo4;ls2", "ab1;at1", "");
        due.is("17 both in one place: by numbers", y.first(1), 0);
        CableCars z = Due.told("xo4;ls2", "at1", "");
        due.is("17 the other", z.first(1), 1);
        due.is("17 when", z.first(0), 12);
        // car 1 is a place ahead of car 0: in a moment of three places it gets there first
        CableCars w = Due.told("ws4;xs4", "ab8", "23333");
        due.is("17 one moment", w.first(0), 4);
        due.is("17 the first that came", w.first(1), 1);
    }

    // 18
    private static void carried() {
        CableCars x = Due.told("xo4;ls2", PEOPLE, "13333333");
        due.is("18 up, down", x.carried(0), 5);
        due.is("18 down, up", x.carried(1), 4);
        due.is("18 2", x.carried(2), BAD);
        due.is("18 -1", x.carried(-1), BAD);
        due.is("18 still in it", one().carried(0), 4);
    }

    // 19
    private static void idle() {
        due.is("19 none", new CableCars().idle(), 0);
        due.is("19 used", one().idle(), 0);
        due.is("19 room for none", Due.told("xg1", PEOPLE, "").idle(), 1);
        due.is("19 the second and third", Due.told("xo9;ks2;js2;ls3", PEOPLE + ";nt1", "").idle(), 6);
        due.is("19 never at a station", Due.told("as1", PEOPLE, "1").idle(), 0);
        due.is("19 nobody", Due.told("as1;bs1;cs1;ds1;es1;fs1", "", "").idle(), 63);
    }

    // 20
    private static void left() {
        due.is("20 left", one().left(), 5);
        due.is("20 no cars", Due.told("", "ab9;xt9", "").left(), 18);
        due.is("20 nobody", new CableCars().left(), 0);
        due.is("20 all over", Due.told("xo9", "ab9", "").left(), 0);
    }

    private static void goods() {
        CableCars x = Due.told("xg9", "ab9;at9", "");
        due.is("goods half, cut", x.at(0, 0, 1), 4);
        due.is("goods top", x.at(12, 0, 1), 4);
        due.is("goods room as told", x.car(0, 2), 9);
        due.is("goods one", Due.told("xg1", "ab9", "").at(0, 0, 1), 0);
        due.is("goods two", Due.told("xg2", "ab9", "").at(0, 0, 1), 1);
    }

    private static void gusts() {
        CableCars x = one();
        x.event(0, 12, 3);
        due.is("gust nobody gets out", x.over(1), 0);
        due.is("gust nor in", x.waits(12, 1), 3);
        due.is("gust they ride on", x.at(23, 0, 1), 4);
        Due.typeAll(x, 2, "12");
        due.is("gust at the top too early", x.at(12, 0, 0), 13);
        due.is("gust elsewhere", x.over(1), 4);
        CableCars shut = Due.told("xs4", PEOPLE, "");
        shut.event(0, 0, 0);
        shut.event(0, 12, 0);
        due.is("gust shut", shut.over(1), 4);
        CableCars goods = Due.told("xg9", PEOPLE, "");
        goods.event(0, 0, 0);
        due.is("gust goods", goods.at(0, 0, 1), 4);
        CableCars round = Due.told("xo4", "ab6", "1333333333");
        round.event(0, 4, 0);
        due.is("gust round to the bottom", round.over(0), 4);
        due.is("gust never to the top", round.over(1), 2);
        CableCars stands = Due.told("ao4", "ab6", "0");
        stands.event(0, 0, 0);
        due.is("gust nobody gets in where it stands", stands.waits(0, 0), 6);
    }

    private static void stops() {
        CableCars x = Due.told("ao9", "ab6;bb2;bb4", "33");
        x.event(1, 0, 5);
        x.event(1, 1, 0);
        due.is("stop stands", x.at(1, 0, 0), 0);
        due.is("stop gets in", x.at(0, 0, 1), 6);
        due.is("stop more get in", x.at(1, 0, 1), 9);
        due.is("stop wait", x.waits(1, 0), 3);
        due.is("stop no power", x.waits(1, 3), 0);
        due.is("stop goes on", x.at(2, 0, 0), 1);
        CableCars top = Due.told("xs4", "ab4;nt2", "");
        top.event(1, 13, 0);
        due.is("stop nobody gets out, more get in", top.at(13, 0, 1), 2);
        CableCars held = Due.told("xo4", "ab4;nt2", "");
        held.event(0, 12, 0);
        held.event(1, 13, 0);
        due.is("stop nobody gets out", held.at(13, 0, 1), 4);
        due.is("stop full: nobody gets in", held.waits(13, 1), 2);
        CableCars away = Due.told("bs4", "ab4", "0");
        due.is("stop not at a station", away.at(0, 0, 1), 0);
        CableCars zero = Due.told("ms4;as3", "ab4;at6", "0");
        due.is("0 both stations", zero.at(0, 0, 1) * 10 + zero.at(0, 1, 1), 43);
    }

    private static void jams() {
        CableCars x = one();
        x.event(2, 12, 0);
        due.is("jam nobody gets out", x.over(1), 0);
        due.is("jam nor in", x.waits(23, 1), 3);
        due.is("jam they stay", x.at(23, 0, 1), 4);
        x.back();
        x.event(2, 13, 0);
        due.is("jam from it on", x.over(1), 4);
        x.event(2, 0, 0);
        due.is("jam the earlier", x.at(0, 0, 1), 0);
        x.back();
        x.back();
        x.event(2, 0, 0);
        x.event(2, 13, 0);
        due.is("jam the earlier, told first", x.at(0, 0, 1), 0);
        CableCars y = one();
        y.event(2, 0, 1);
        due.is("jam of no car", y.over(1), 4);
        CableCars stands = Due.told("as4", "ab6", "0");
        stands.event(2, 0, 0);
        due.is("jam where it stands", stands.waits(0, 0), 6);
    }

    private static void powerOfManyCars() {
        // 4 go up while 3 come down, from moment 1 on
        CableCars x = Due.told("xs4;ls3", "ab4;at3", "");
        due.is("power less", x.waits(1, 3), 1);
        due.is("power sum", x.sum(), 12);
        CableCars y = Due.told("xs3;ls4", "ab3;at4", "");
        due.is("power 0 at least", y.sum(), 0);
        // per place: up 4 for one place, then 4 less 9 for the next two
        CableCars z = Due.told("xs4;ks9", "ab4;at9", "13");
        due.is("power 0 at least by each place", z.waits(1, 3), 4);
        CableCars w = Due.told("xs4;is2", "ab4;at2", "13");
        due.is("power of three places", w.waits(1, 3), 12);
        due.is("power behind", w.waits(2, 3), 2);
    }

    // 21
    private static void hang() {
        CableCars x = one();
        due.is("21 where", x.hang(0, 0), 12);
        due.is("21 how many", x.hang(0, 1), 4);
        due.is("21 nothing changed", x.car(0, 0), 23);
        CableCars y = Due.told("xo4;mg1", PEOPLE, "");
        due.is("21 not where another hangs", y.hang(0, 0), 13);
        due.is("21 how many", y.hang(0, 1), 4);
        CableCars z = Due.told("ao1", "", "");
        due.is("21 nobody", z.hang(0, 0), 0);
        due.is("21 nobody", z.hang(0, 1), 0);
        due.is("21 the first is taken", Due.told("ao1;bo1;cs1", "", "").hang(2, 0), 2);
        due.is("21 its own place", Due.told("ao1;bo1;cs1", "", "").hang(1, 0), 1);
        due.is("21 car", x.hang(1, 0), BAD);
        due.is("21 car", x.hang(-1, 0), BAD);
        due.is("21 what", x.hang(0, 2), BAD);
        due.is("21 what", x.hang(0, -1), BAD);
    }

    // 22
    private static void pace() {
        CableCars x = one();
        due.is("22 which", x.pace(5, 0), 2);
        due.is("22 how many", x.pace(5, 1), 7);
        due.is("22 0 which", x.pace(0, 0), 2);
        due.is("22 0 how many", x.pace(0, 1), 7);
        due.is("22 nothing changed", x.speed(5), 1);
        x.event(1, 5, 0);
        due.is("22 a stop holds", x.pace(5, 0), 0);
        due.is("22 a stop holds", x.pace(5, 1), 4);
        due.is("22 elsewhere", x.pace(6, 0), 3);
        due.is("22 moment", x.pace(24, 0), BAD);
        due.is("22 moment", x.pace(-1, 0), BAD);
        due.is("22 what", x.pace(0, 2), BAD);
        due.is("22 what", x.pace(0, -1), BAD);
    }

    // 23
    private static void cheap() {
        CableCars x = one();
        due.is("23 like ones", x.cheap(5, 0), 0);
        due.is("23 how much", x.cheap(5, 1), 48);
        CableCars y = Due.told("as4", "ab4", "0");
        due.is("23 leaves empty", y.cheap(0, 0), 1);
        due.is("23 takes none", y.cheap(0, 1), 0);
        due.is("23 nothing changed", y.sum(), 48);
        // only by three places it is at the bottom ahead of those who come
        due.is("23 ahead of them", Due.told("vs4", "bb4", "").cheap(0, 0), 3);
        due.is("23 ahead of them", Due.told("vs4", "bb4", "").cheap(0, 1), 0);
        due.is("23 moment", x.cheap(24, 0), BAD);
        due.is("23 moment", x.cheap(-1, 0), BAD);
        due.is("23 what", x.cheap(0, 2), BAD);
        due.is("23 what", x.cheap(0, -1), BAD);
    }

    private static void spareIs(String what, CableCars x, int many, int zeroth, int next) {
        due.is("24 how many " + what, x.spare(NONE), many);
        due.is("24 the 0th " + what, x.spare(0), zeroth);
        due.is("24 the 1st " + what, x.spare(1), next);
    }

    // 24
    private static void spare() {
        CableCars x = Due.told("xo4", "ab4", "");
        x.event(0, 3, 0);
        x.event(1, 3, 0);
        spareIs("none", x, 0, NONE, NONE);
        x.event(2, 12, 0);
        spareIs("one", x, 1, 2, NONE);
        x.event(0, 0, 0);
        spareIs("two", x, 2, 2, 3);
        x.event(2, 12, 0);
        spareIs("three", x, NONE, NONE, NONE);
        // to the top it is 14 places: 13 are never enough, of 15 one may be lost
        CableCars z = Due.told("ws4", "ab4", "111111111111100000000000");
        z.event(1, 2, 0);
        z.event(1, 1, 0);
        spareIs("never", z, NONE, NONE, NONE);
        CableCars w = Due.told("ws4", "ab4", "111111111111111000000000");
        for (int i = 0; i < 3; i++) {
            w.event(1, 4 - i, 0);
        }
        spareIs("two of three", w, 2, 0, 1);
        w.back();
        spareIs("one of two", w, 1, 0, NONE);
        due.is("24 2", x.spare(2), BAD);
        due.is("24 -2", x.spare(-2), BAD);
    }

    // 25
    private static void seen() {
        CableCars x = one();
        int[][] bad = {{-1, 0, 0}, {24, 0, 0}, {0, -1, 0}, {0, 2, 0}, {0, 0, -1}, {0, 0, 109}};
        for (int[] b : bad) {
            due.is("25 bad", x.seen(b[0], b[1], b[2]), BAD);
        }
        due.is("25 none", x.count(7), 0);
        due.is("25 greatest", x.seen(23, 1, 108), 1);
        for (int i = 2; i <= 8; i++) {
            due.is("25 more", x.seen(0, 0, 0), i);
        }
        due.is("25 full", x.seen(0, 0, 0), FULL);
        due.is("25 BAD ahead of FULL", x.seen(0, 0, 109), BAD);
    }

    // 26
    private static void forget() {
        CableCars x = one();
        due.is("26 none", x.forget(), 0);
        x.seen(0, 0, 99);
        x.seen(0, 0, 98);
        due.is("26 nothing so", x.was(0, 0), 0);
        due.is("26 two", x.forget(), 2);
        due.is("26 none", x.count(7), 0);
        due.is("26 all so", x.was(0, 0), 1022);
    }

    // 27
    private static void never() {
        CableCars x = one();
        due.is("27 none", x.never(), 0);
        x.event(0, 0, 0);
        x.event(1, 5, 0);
        x.event(2, 23, 0);
        due.is("27 nothing seen", x.never(), 7);
        x.seen(0, 0, 2);
        due.is("27 no gust", x.never(), 1);
        x.forget();
        x.seen(0, 0, 6);
        due.is("27 not the gust", x.never(), 6);
        x.seen(12, 1, 0);
        due.is("27 nor the stop", x.never(), 2);
        x.seen(12, 1, 1);
        due.is("27 all of it", x.never(), 0);
        due.is("27 nothing changed", x.count(6), 3);
    }

    // 28
    private static void was() {
        CableCars x = one();
        due.is("28 rooms", x.was(0, 0), 1022);
        due.is("28 sorts", x.was(0, 1), 7);
        x.seen(0, 0, 2);
        due.is("28 room", x.was(0, 0), 1 << 4);
        due.is("28 sort", x.was(0, 1), 3);
        x.forget();
        x.seen(0, 0, 4);
        due.is("28 room 2", x.was(0, 0), 1 << 2);
        due.is("28 for goods", x.was(0, 1), 4);
        x.forget();
        x.seen(0, 0, 0);
        due.is("28 rooms 6 on", x.was(0, 0), 1 << 6 | 1 << 7 | 1 << 8 | 1 << 9);
        x.event(0, 0, 0);
        due.is("28 gust", x.was(0, 0), 0);
        x.forget();
        x.seen(0, 0, 2);
        due.is("28 shut", x.was(0, 1), 2);
        CableCars goods = Due.told("xg4", PEOPLE, "");
        goods.seen(0, 0, 4);
        due.is("28 rooms of one for goods", goods.was(0, 0), 1 << 4 | 1 << 5);
        due.is("28 car", x.was(1, 0), BAD);
        due.is("28 car", x.was(-1, 0), BAD);
        due.is("28 what", x.was(0, 2), BAD);
        due.is("28 what", x.was(0, -1), BAD);
    }

    // 29
    private static void ask() {
        CableCars x = Due.told("xs4", "ab3;at9", "");
        // behind 0 to 11: rooms 1, 2 apart, 3 to 9 alike (7); behind 12 all 9 apart
        due.is("29 ask", x.ask(0), 12);
        CableCars y = Due.told("xs4", "ab9", "");
        due.is("29 at once", y.ask(0), 0);
        x.seen(12, 1, 2);
        due.is("29 one room", x.ask(0), 0);
        x.seen(12, 1, 3);
        due.is("29 none", x.ask(0), 0);
        CableCars z = Due.told("xs4", "ab3;bt1", "");
        // behind 0: 1, 2, 3 on; behind 12 the top is empty by any of them
        due.is("29 like ones", z.ask(0), 0);
        // behind 0 rooms 8 and 9 alone are alike
        due.is("29 the greatest rooms", Due.told("xs4", "ab8;at9", "").ask(0), 12);
        due.is("29 car", x.ask(1), BAD);
        due.is("29 car", x.ask(-1), BAD);
        CableCars late = Due.told("ws4", "ab9", "");
        due.is("29 the next", late.ask(0), 1);
    }

    private static void chanceIs(CableCars x, int c, int moment, long above, long below) {
        due.is("30 above of " + c, x.chance(c, moment, 0), above);
        due.is("30 below of " + c, x.chance(c, moment, 1), below);
    }

    // 30
    private static void chance() {
        CableCars x = Due.told("xo4", "ab4", "");
        chanceIs(x, 5, 0, 1, 1);
        x.event(0, 0, 0);
        chanceIs(x, 0, 0, 1, 1);
        chanceIs(x, 16, 0, 0, 1);
        chanceIs(x, 5, 0, 11, 16);
        chanceIs(x, 4, 0, 3, 4);
        chanceIs(x, 8, 23, 1, 2);
        x.event(2, 0, 0);
        chanceIs(x, 5, 0, 121, 256);
        chanceIs(x, 4, 0, 9, 16);
        x.event(2, 5, 0);
        chanceIs(x, 5, 0, 121, 256);
        for (int i = 0; i < 5; i++) {
            x.event(0, 0, 0);
        }
        chanceIs(x, 1, 0, 170859375L, 268435456L);
        CableCars y = Due.told("xo4", "ab4", "");
        for (int i = 0; i < 8; i++) {
            y.event(0, 0, 0);
        }
        chanceIs(y, 1, 0, 2562890625L, 4294967296L);
        chanceIs(y, 15, 0, 1, 4294967296L);
        chanceIs(y, 16, 0, 0, 1);
        chanceIs(y, 0, 0, 1, 1);
        CableCars top = Due.told("xo4", "at1", "");
        top.event(1, 3, 0);
        chanceIs(top, 8, 12, 1, 2);
        chanceIs(top, 8, 11, 0, 1);
        long bad = Long.MIN_VALUE + 2;
        chanceIs(x, -1, 0, bad, bad);
        chanceIs(x, 17, 0, bad, bad);
        chanceIs(x, 1, -1, bad, bad);
        chanceIs(x, 1, 24, bad, bad);
        due.is("30 what", x.chance(1, 0, 2), bad);
        due.is("30 what", x.chance(1, 0, -1), bad);
        due.is("30 nothing changed", x.count(6), 8);
    }

    // 31
    private static void years() {
        // SEED 1: 1103527590, -1761148361 (as an int), ...: upper halves 16838, 38663
        CableCars x = Due.told("xs4", "ab4;bb2", "0");
        due.is("31 1 later", x.years(1, 0, 0), 4);
        due.is("31 1 later", x.years(1, 0, 1), 48);
        due.is("31 1 later, whatever is told", Due.told("xs4", "ab4", "000000000000000000000000").years(1, 0, 0), 4);
        // n = 1: two places in moment 0
        due.is("31 n 1", x.years(1, 1, 0), 4);
        due.is("31 nothing changed", x.speed(0), 0);
        due.is("31 without people", Due.told("xs4", "", "").years(5, 24, 0), 0);
        due.is("31 n -1", x.years(1, -1, 0), BAD);
        due.is("31 n 25", x.years(1, 25, 0), BAD);
        due.is("31 what", x.years(1, 0, 2), BAD);
        due.is("31 what", x.years(1, 0, -1), BAD);
        due.is("31 n 24", x.years(MIN, 24, 0), overByLots(MIN, 24, "xs4", "ab4;bb2", false));
        for (int seed = -3; seed <= 3; seed++) {
            for (int n = 0; n <= 24; n += 6) {
                due.is("31 over " + seed + ", " + n, x.years(seed, n, 0), overByLots(seed, n, "xs4", "ab4;bb2", false));
                due.is("31 sum " + seed + ", " + n, x.years(seed, n, 1), overByLots(seed, n, "xs4", "ab4;bb2", true));
            }
        }
    }

    /** The same lots told as the speed of another object. */
    private static int overByLots(int seed, int n, String cars, String comings, boolean power) {
        StringBuilder speed = new StringBuilder();
        long s = seed;
        for (int i = 0; i < n; i++) {
            s = Math.floorMod(1103515245L * s + 12345L, 4294967296L);
            speed.append(s / 65536 % 4);
        }
        CableCars x = Due.told(cars, comings, speed.toString());
        return power ? x.sum() : x.over(0) + x.over(1);
    }

    // 32
    private static void sheet() {
        CableCars x = new CableCars();
        due.is("32 empty", x.sheet(0, 0, 0), 0);
        due.is("32 sixty", x.sheet(3, 2, 60), 60);
        due.is("32 61", x.sheet(3, 2, 61), BAD);
        due.is("32 s", x.sheet(-1, 0, 0), BAD);
        due.is("32 s", x.sheet(4, 0, 0), BAD);
        due.is("32 form", x.sheet(0, -1, 0), BAD);
        due.is("32 form", x.sheet(0, 3, 0), BAD);
        due.is("32 BAD ahead of SIZE", x.sheet(4, 0, -1), BAD);
        due.is("32 BAD ahead of SIZE", x.sheet(0, 3, -1), BAD);
        due.is("32 no finding", x.count(8), 0);
        due.is("32 below 0", x.sheet(3, 0, -1), SIZE);
        due.is("32 finding", x.count(8), 5);
        due.is("32 stays", x.get(3, 2, 59), 0);
        x.put(3, 2, 59, 7);
        due.is("32 new", x.sheet(3, 2, 60), 60);
        due.is("32 0 at first", x.get(3, 2, 59), 0);
        due.is("32 another form", x.sheet(3, 1, 1), 1);
        due.is("32 another form", x.put(3, 2, 0, 1), CAST);
        due.is("32 least", x.sheet(1, 1, MIN), SIZE);
        due.is("32 still lost", x.lose(1), NULL);
    }

    // 33
    private static void lose() {
        CableCars x = new CableCars();
        x.sheet(2, 1, 9);
        due.is("33 had", x.lose(2), 9);
        due.is("33 lost", x.lose(2), NULL);
        due.is("33 finding", x.count(8), 1);
        due.is("33 lost", x.put(2, 1, 0, 0), NULL);
        due.is("33 -1", x.lose(-1), BAD);
        due.is("33 4", x.lose(4), BAD);
        x.sheet(2, 1, 0);
        due.is("33 empty is not lost", x.lose(2), 0);
    }

    // 34
    private static void put() {
        CableCars x = new CableCars();
        due.is("34 s", x.put(-1, 0, 0, 0), BAD);
        due.is("34 s", x.put(4, 0, 0, 0), BAD);
        due.is("34 form", x.put(0, 3, 0, 0), BAD);
        due.is("34 form", x.put(0, -1, 0, 0), BAD);
        due.is("34 lost", x.put(0, 0, 0, 0), NULL);
        x.sheet(0, 0, 2);
        x.sheet(1, 1, 2);
        x.sheet(2, 2, 2);
        due.is("34 cast", x.put(0, 1, 0, 0), CAST);
        due.is("34 CAST ahead of INDEX", x.put(0, 1, 2, 0), CAST);
        due.is("34 finding", x.count(8), 3);
        due.is("34 index", x.put(0, 0, 2, 0), INDEX);
        due.is("34 index", x.put(0, 0, -1, 0), INDEX);
        due.is("34 index", x.put(0, 0, MAX, 0), INDEX);
        due.is("34 index", x.put(0, 0, MIN, 0), INDEX);
        due.is("34 finding", x.count(8), 2);
        for (int form = 0; form <= 2; form++) {
            due.is("34 put", x.put(form, form, 1, 0x12348765), 1);
        }
        due.is("34 byte", x.get(0, 0, 1), 0x65);
        due.is("34 short", x.get(1, 1, 1), (short) 0x8765);
        due.is("34 int", x.get(2, 2, 1), 0x12348765);
        x.put(0, 0, 0, 200);
        due.is("34 a byte has its sign", x.get(0, 0, 0), -56);
        due.is("34 finding stays", x.count(8), 2);
    }

    // 35
    private static void get() {
        CableCars x = new CableCars();
        due.is("35 s", x.get(-1, 0, 0), MIN);
        due.is("35 s", x.get(4, 0, 0), MIN);
        due.is("35 form", x.get(0, 3, 0), MIN);
        due.is("35 no finding", x.count(8), 0);
        due.is("35 lost", x.get(0, 0, 0), MIN);
        due.is("35 finding", x.count(8), 1);
        x.sheet(0, 1, 3);
        due.is("35 cast", x.get(0, 0, 9), MIN);
        due.is("35 finding", x.count(8), 3);
        due.is("35 index", x.get(0, 1, 3), MIN);
        due.is("35 finding", x.count(8), 2);
        x.put(0, 1, 2, -5);
        due.is("35 item", x.get(0, 1, 2), -5);
        due.is("35 item", x.get(0, 1, 1), 0);
        due.is("35 index", x.get(0, 1, -1), MIN);
    }

    // 36
    private static void copy() {
        CableCars x = new CableCars();
        due.is("36 s", x.copy(-1, 0, 0, 0, 0), BAD);
        due.is("36 t", x.copy(0, 0, 4, 0, 0), BAD);
        due.is("36 lost s", x.copy(0, 0, 0, 0, 0), NULL);
        putAll(x, 0, 2, 1, 2, 3, 4, 5);
        due.is("36 lost t", x.copy(0, 0, 1, 0, 1), NULL);
        due.is("36 lost s", x.copy(1, 0, 0, 0, 1), NULL);
        x.sheet(1, 1, 5);
        due.is("36 store", x.copy(0, 0, 1, 0, 1), STORE);
        due.is("36 STORE ahead of INDEX", x.copy(0, -1, 1, 0, 1), STORE);
        due.is("36 finding", x.count(8), 4);
        int[][] wrong = {{-1, 0, 1}, {0, -1, 1}, {0, 0, -1}, {0, 0, 6}, {3, 0, 3}, {0, 3, 3}, {6, 0, 0}, {0, 6, 0},
            {1, 0, MAX}, {0, 1, MAX}, {MAX, 0, MAX}, {MIN, 0, MIN}};
        for (int[] w : wrong) {
            due.is("36 index", x.copy(0, w[0], 0, w[1], w[2]), INDEX);
        }
        due.is("36 finding", x.count(8), 2);
        due.is("36 none at the end", x.copy(0, 5, 0, 5, 0), 1);
        due.is("36 upwards onto itself", x.copy(0, 0, 0, 1, 4), 1);
        int[] up = {1, 1, 2, 3, 4};
        for (int i = 0; i < 5; i++) {
            due.is("36 upwards " + i, x.get(0, 2, i), up[i]);
        }
        due.is("36 downwards onto itself", x.copy(0, 2, 0, 0, 3), 1);
        int[] down = {2, 3, 4, 3, 4};
        for (int i = 0; i < 5; i++) {
            due.is("36 downwards " + i, x.get(0, 2, i), down[i]);
        }
        x.sheet(2, 2, 2);
        due.is("36 to another", x.copy(0, 2, 2, 1, 1), 1);
        due.is("36 came", x.get(2, 2, 1), 4);
        due.is("36 others stay", x.get(2, 2, 0), 0);
        due.is("36 not so many there", x.copy(0, 0, 2, 0, 3), INDEX);
        due.is("36 nothing changed", x.get(2, 2, 0), 0);
    }

    // 37
    private static void write() {
        CableCars x = one();
        due.is("37 station", x.write(-1, 0), BAD);
        due.is("37 station", x.write(2, 0), BAD);
        due.is("37 s", x.write(0, 4), BAD);
        due.is("37 s", x.write(0, -1), BAD);
        due.is("37 lost", x.write(0, 0), NULL);
        due.is("37 finding", x.count(8), 1);
        x.sheet(0, 0, 60);
        x.put(0, 0, 24, 77);
        due.is("37 24 at most", x.write(1, 0), 24);
        for (int i = 0; i < 24; i++) {
            due.is("37 item " + i, x.get(0, 0, i), i < 12 ? 3 : 0);
        }
        due.is("37 the next stays", x.get(0, 0, 24), 77);
        x.sheet(1, 2, 3);
        due.is("37 as many as there are", x.write(0, 1), 3);
        due.is("37 bottom", x.get(1, 2, 2), 2);
        x.sheet(2, 1, 0);
        due.is("37 none", x.write(0, 2), 0);
    }

    // 38
    private static void count() {
        CableCars x = Due.told("ao4;bs2", "ab6;at3;ct1", "0123");
        x.event(0, 0, 0);
        x.seen(0, 0, 0);
        x.seen(0, 0, 0);
        x.lose(0);
        int[] want = {2, 3, 4, 7, 11, 4, 1, 2, 1};
        for (int what = 0; what <= 8; what++) {
            due.is("38 count " + what, x.count(what), want[what]);
        }
        x.type(0, 'a');
        x.type(1, 'a');
        x.type(2, 'a');
        int[] faulty = {0, 0, 0, 8, 12, 5, 1, 2, 1};
        for (int what = 0; what <= 8; what++) {
            due.is("38 with faults " + what, x.count(what), faulty[what]);
        }
        due.is("38 9", x.count(9), BAD);
        due.is("38 -1", x.count(-1), BAD);
    }

    // 39
    private static void digest() {
        due.is("39 new", new CableCars().digest(), digestByCalls(new CableCars()));
        CableCars x = Due.told("xo4;ls2;cg7", PEOPLE + ";fb9", "12301");
        x.event(0, 0, 0);
        x.event(2, 9, 1);
        x.seen(0, 0, 2);
        due.is("39 told", x.digest(), digestByCalls(x));
        Random random = new Random(39);
        for (int i = 0; i < 40; i++) {
            CableCars y = busy(random);
            due.is("39 busy " + i, y.digest(), digestByCalls(y));
        }
        long h = x.digest();
        x.lose(0);
        due.is("39 without findings", x.digest(), h);
        x.seen(0, 0, 3);
        due.holds("39 another one", x.digest() != h);
    }

    /** Six cars, twelve comings, events and sightings: hardly two answers in it are alike. */
    private static CableCars busy(Random random) {
        StringBuilder cars = new StringBuilder();
        StringBuilder comings = new StringBuilder();
        StringBuilder speed = new StringBuilder();
        for (int i = 0; i < 6; i++) {
            cars.append(i == 0 ? "" : ";").append((char) ('a' + 4 * i + random.nextInt(4)));
            cars.append("osg".charAt(random.nextInt(3))).append(1 + random.nextInt(9));
        }
        for (int i = 0; i < 12; i++) {
            comings.append(i == 0 ? "" : ";").append((char) ('a' + random.nextInt(12)));
            comings.append("bt".charAt(random.nextInt(2))).append(1 + random.nextInt(4));
        }
        for (int i = 0; i < 20; i++) {
            speed.append(random.nextInt(4));
        }
        CableCars x = Due.told(cars.toString(), comings.toString(), speed.toString());
        int events = random.nextInt(9);
        for (int i = 0; i < events; i++) {
            x.event(random.nextInt(3), random.nextInt(24), random.nextInt(6));
        }
        x.seen(3, 0, x.waits(3, 0));
        return x;
    }

    private static long digestByCalls(CableCars x) {
        List<Long> all = new ArrayList<>();
        for (int i = 0; i <= 7; i++) {
            all.add((long) x.count(i));
        }
        for (int i = 0; i <= 2; i++) {
            all.add((long) x.fault(i));
        }
        for (int i = 0; i < 36; i++) {
            all.add((long) x.coming(i / 3, i % 3));
        }
        for (int i = 0; i < 120; i++) {
            all.add((long) (i % 5 == 0 ? x.speed(i / 5) : x.waits(i / 5, i % 5 - 1)));
        }
        for (int c = 0; c < x.count(0); c++) {
            long[] of = {x.car(c, 0), x.car(c, 1), x.car(c, 2), x.at(0, c, 0), x.at(0, c, 1), x.at(5, c, 0), x.at(5, c, 1),
                x.at(12, c, 0), x.at(12, c, 1), x.at(23, c, 0), x.at(23, c, 1), x.carried(c), x.hang(c, 0), x.hang(c, 1),
                x.was(c, 0), x.was(c, 1), x.ask(c)};
            for (long v : of) {
                all.add(v);
            }
        }
        long[] rest = {x.over(0), x.crowd(0, 0), x.crowd(0, 1), x.over(1), x.crowd(1, 0), x.crowd(1, 1), x.sum(), x.first(0),
            x.first(1), x.idle(), x.left(), x.pace(8, 0), x.pace(8, 1), x.cheap(8, 0), x.cheap(8, 1), x.chance(5, 17, 0),
            x.chance(5, 17, 1), x.spare(-1), x.spare(0), x.never(), x.years(7, 18, 0), x.years(7, 18, 1)};
        for (long v : rest) {
            all.add(v);
        }
        long h = 17;
        for (long v : all) {
            h = 31 * h + v;
        }
        return h;
    }
}

/** The edges of promises 1 to 11: cars, comings, the speed, events. Each test bears its promise's number. */
public final class EdgeTellTest {
    private static final int BAD = Edge.BAD, NOT = Edge.NOT, FULL = Edge.FULL, NONE = Edge.NONE, NULL = Edge.NULL;
    private static final int[] LIMITS = {23, 47, 24};
    private static final String[] BRIMS = {Edge.SIX_CARS, Edge.TWELVE_COMINGS, Edge.ALL_SPEED};
    private static final Edge edge = new Edge("EdgeTellTest");

    public static void main(String[] args) {
        promise1NothingIsTold();
        promise1AllSheetsAreLost();
        promise1ObjectsShareNothing();
        promise2TextAndByte();
        promise2Full();
        promise2FullOfOneTextAlone();
        promise2ATextWithAFaultGrows();
        promise3Text();
        promise3EmptyAndFull();
        promise3ThereIsSpaceAgain();
        promise4Text();
        promise4Empty();
        promise4FullAndLast();
        promise4FaultsComeAndGo();
        promise5Text();
        promise5AnEmptyOneIsWell();
        promise5NotEndedItsEnd();
        promise5Letters();
        promise5Sorts();
        promise5Stations();
        promise5Figures();
        promise5Between();
        promise5WhereAnotherHangs();
        promise5TheFirstByteOfSeveral();
        promise5SixCarsTwelveComings();
        promise5SpeedFigures();
        promise5AsIfItWasEmpty();
        promise6Numbers();
        promise6FewerCars();
        promise6LeastAndGreatest();
        promise7Numbers();
        promise7None();
        promise7LeastAndGreatest();
        promise8Moment();
        promise8LaterOnes();
        promise8AsTold();
        promise9Numbers();
        promise9EightAtMost();
        promise9WhateverNumber();
        promise9ThatCarFromItOn();
        promise9ACarThatIsNotThere();
        promise9InItAlone();
        promise10None();
        promise10TheLast();
        promise11Sheet();
        promise11AsManyAsAreWhole();
        promise11AsLongAsEachMayBe();
        promise11EightAtMost();
        promise11Forms();
        promise11TheSheetStays();
        edge.end();
    }

    // 1: No CARS, no COMINGS, no SPEED told, no EVENTS
    private static void promise1NothingIsTold() {
        CableCars x = new CableCars();
        for (int what = 0; what <= 8; what++) {
            edge.is("1 count " + what, x.count(what), 0);
        }
        edge.is("1 no CARS", x.car(0, 0), BAD);
        edge.is("1 no COMINGS, the first", x.coming(0, 0), NONE);
        edge.is("1 no COMINGS, the last", x.coming(11, 2), NONE);
        edge.is("1 no SPEED told, at first", x.speed(0), 1);
        edge.is("1 no SPEED told, at last", x.speed(23), 1);
        edge.is("1 no EVENTS", x.back(), NOT);
        edge.is("1 nothing SEEN", x.forget(), 0);
        for (int text = 0; text <= 2; text++) {
            edge.is("1 empty text " + text, x.wipe(text), 0);
        }
    }

    // 1: all SHEETS are LOST
    private static void promise1AllSheetsAreLost() {
        for (int s = 0; s <= 3; s++) {
            CableCars x = new CableCars();
            edge.is("1 LOST " + s, x.lose(s), NULL);
            edge.is("1 LOST " + s + ", the FINDING", x.count(8), 1);
        }
    }

    private static void promise1ObjectsShareNothing() {
        CableCars x = new CableCars();
        Edge.full();
        edge.is("1 another object is full", x.digest(), new CableCars().digest());
        edge.is("1 another object has SHEETS", x.lose(0), NULL);
        edge.is("1 another object had FINDINGS", new CableCars().count(8), 0);
    }

    // 2: A byte (0 to 255); BAD
    private static void promise2TextAndByte() {
        edge.range("2 text", 0, 2, (x, text) -> x.type(text, 'a'));
        edge.range("2 byte 0 to 255", 0, 255, (x, b) -> x.type(0, b));
        for (int text = 0; text <= 2; text++) {
            CableCars x = new CableCars();
            edge.is("2 byte -1", x.type(text, -1), BAD);
            edge.is("2 byte 0", x.type(text, 0), 1);
            edge.is("2 byte 1", x.type(text, 1), 2);
            edge.is("2 byte 254", x.type(text, 254), 3);
            edge.is("2 byte 255", x.type(text, 255), 4);
            edge.is("2 byte 256", x.type(text, 256), BAD);
            edge.is("2 byte 256 and a", x.type(text, 256 + 'a'), BAD);
            edge.is("2 four came", x.count(3 + text), 4);
        }
    }

    // 2: FULL (text 0 up to 23 bytes, text 1 up to 47, text 2 up to 24)
    private static void promise2Full() {
        for (int t = 0; t <= 2; t++) {
            int text = t;
            CableCars x = new CableCars();
            for (int i = 1; i < LIMITS[text]; i++) {
                x.type(text, BRIMS[text].charAt(i - 1));
            }
            edge.is("2 the last but one of text " + text, x.count(3 + text), LIMITS[text] - 1);
            edge.is("2 the last of text " + text, x.type(text, BRIMS[text].charAt(LIMITS[text] - 1)), LIMITS[text]);
            edge.is("2 one more in text " + text, x.type(text, ';'), FULL);
            edge.is("2 it is well yet", x.fault(text), NONE);
            edge.refusedWhenFull("2 FULL text " + text, y -> y.type(text, '0'), FULL);
            edge.refusedWhenFull("2 BAD ahead of FULL, text " + text, y -> y.type(text, 256), BAD);
            edge.refusedWhenFull("2 BAD ahead of FULL, text " + text, y -> y.type(text, -1), BAD);
        }
    }

    private static void promise2FullOfOneTextAlone() {
        for (int text = 0; text <= 2; text++) {
            CableCars x = new CableCars();
            Due.typeAll(x, text, BRIMS[text]);
            for (int other = 0; other <= 2; other++) {
                edge.is("2 text " + text + " is full, text " + other, x.type(other, '1'), other == text ? FULL : 1);
            }
        }
    }

    private static void promise2ATextWithAFaultGrows() {
        CableCars x = new CableCars();
        edge.is("2 a byte that cannot be", x.type(0, 0), 1);
        edge.is("2 one behind a FAULT", x.type(0, 'a'), 2);
        edge.is("2 the FAULT stays", x.fault(0), 0);
    }

    // 3: BAD
    private static void promise3Text() {
        edge.range("3 text", 0, 2, (x, text) -> x.wipe(text));
    }

    // 3: how many bytes it had
    private static void promise3EmptyAndFull() {
        for (int text = 0; text <= 2; text++) {
            CableCars x = new CableCars();
            edge.is("3 empty", x.wipe(text), 0);
            x.type(text, 'a');
            edge.is("3 one byte", x.wipe(text), 1);
            edge.is("3 again", x.wipe(text), 0);
            CableCars y = Edge.full();
            edge.is("3 full", y.wipe(text), LIMITS[text]);
            edge.is("3 is empty", y.count(3 + text), 0);
            edge.is("3 nothing of it is left", y.count(text), 0);
            for (int other = 0; other <= 2; other++) {
                edge.is("3 of the others", y.count(3 + other), other == text ? 0 : LIMITS[other]);
            }
            edge.is("3 EVENTS stay", y.count(6), 8);
            edge.is("3 SEEN stay", y.count(7), 8);
        }
    }

    private static void promise3ThereIsSpaceAgain() {
        for (int text = 0; text <= 2; text++) {
            CableCars x = Edge.full();
            x.wipe(text);
            Due.typeAll(x, text, BRIMS[text]);
            edge.is("3 filled again", x.count(3 + text), LIMITS[text]);
            edge.is("3 as it was", x.digest(), Edge.full().digest());
        }
        CableCars y = Due.told("y", "y", "y");
        for (int text = 0; text <= 2; text++) {
            edge.is("3 a FAULT", y.fault(text), 0);
            y.wipe(text);
            edge.is("3 no FAULT", y.fault(text), NONE);
        }
    }

    // 4: BAD
    private static void promise4Text() {
        edge.range("4 text", 0, 2, (x, text) -> x.undo(text));
        edge.refusedWhenNew("4 BAD text -1", x -> x.undo(-1), BAD);
        edge.refusedWhenNew("4 BAD text 3", x -> x.undo(3), BAD);
    }

    // 4: NOT: it is empty
    private static void promise4Empty() {
        for (int t = 0; t <= 2; t++) {
            int text = t;
            edge.refusedWhenNew("4 NOT " + text, x -> x.undo(text), NOT);
            CableCars x = Edge.full();
            x.wipe(text);
            edge.is("4 NOT, the others are full", x.undo(text), NOT);
            x.type(text, '1');
            edge.is("4 the only byte", x.undo(text), 0);
            edge.is("4 NOT again", x.undo(text), NOT);
        }
    }

    // 4: The last byte of a text is undone: how many are left
    private static void promise4FullAndLast() {
        for (int text = 0; text <= 2; text++) {
            CableCars x = Edge.full();
            edge.is("4 full", x.undo(text), LIMITS[text] - 1);
            edge.is("4 space for one", x.type(text, '1'), LIMITS[text]);
            edge.is("4 for one alone", x.type(text, '1'), FULL);
            for (int left = LIMITS[text] - 1; left >= 0; left--) {
                edge.is("4 left", x.undo(text), left);
            }
            edge.is("4 none", x.undo(text), NOT);
        }
        CableCars y = Due.told("ao4", "ab6", "3");
        y.undo(0);
        y.type(0, '7');
        edge.is("4 another ROOM", y.car(0, 2), 7);
        y.undo(1);
        y.type(1, '8');
        edge.is("4 another number", y.coming(0, 2), 8);
        y.undo(2);
        y.type(2, '2');
        edge.is("4 another speed", y.speed(0), 2);
    }

    private static void promise4FaultsComeAndGo() {
        CableCars x = Due.told("ao4;", "", "12a");
        edge.is("4 not ended", x.fault(0), 4);
        x.undo(0);
        edge.is("4 ended", x.fault(0), NONE);
        x.undo(0);
        edge.is("4 not ended again", x.fault(0), 2);
        edge.is("4 a wrong figure", x.fault(2), 2);
        x.undo(2);
        edge.is("4 it is gone", x.speed(1), 2);
    }

    // 5: BAD
    private static void promise5Text() {
        edge.range("5 text", 0, 2, (x, text) -> x.fault(text));
    }

    private static void faultIs(String sentence, int text, String bytes, int want) {
        CableCars x = new CableCars();
        Due.typeAll(x, text, bytes);
        edge.is("5 " + sentence + " '" + bytes + "'", x.fault(text), want);
        edge.is("5 " + sentence + " '" + bytes + "' as told or as if it was empty", x.count(text),
            want != NONE ? 0 : text == 2 ? bytes.length() : (bytes.length() + 1) / 4);
    }

    // an empty one is well
    private static void promise5AnEmptyOneIsWell() {
        for (int text = 0; text <= 2; text++) {
            faultIs("empty", text, "", NONE);
            CableCars x = new CableCars();
            x.type(text, '1');
            x.undo(text);
            edge.is("5 empty again", x.fault(text), NONE);
        }
    }

    // of one that is not ended, its end
    private static void promise5NotEndedItsEnd() {
        for (int text = 0; text <= 1; text++) {
            String brim = BRIMS[text];
            for (int n = 0; n <= brim.length(); n++) {
                faultIs("not ended", text, brim.substring(0, n), n == 0 || n % 4 == 3 ? NONE : n);
            }
        }
        for (int n = 0; n <= 24; n++) {
            faultIs("figures are ended", 2, Edge.ALL_SPEED.substring(0, n), NONE);
        }
    }

    /** Of all bytes those of well alone may be there. */
    private static void bytesAre(String sentence, int text, String ahead, String well, int wellFault) {
        for (int b = 0; b <= 255; b++) {
            CableCars x = new CableCars();
            Due.typeAll(x, text, ahead);
            x.type(text, b);
            edge.is("5 " + sentence + " " + b, x.fault(text), well.indexOf(b) >= 0 ? wellFault : ahead.length());
        }
    }

    // a letter a to x
    private static void promise5Letters() {
        String letters = "abcdefghijklmnopqrstuvwx";
        bytesAre("a letter a to x", 0, "", letters, 1);
        bytesAre("a letter a to x", 1, "", letters, 1);
        bytesAre("a letter a to x", 1, "ab1;", letters, 5);
    }

    // o (open), s (shut) or g (for goods)
    private static void promise5Sorts() {
        bytesAre("o, s or g", 0, "a", "osg", 2);
        bytesAre("o, s or g", 0, "ao1;bs2;cg3;do4;es5;f", "osg", 22);
    }

    // b or t
    private static void promise5Stations() {
        bytesAre("b or t", 1, "a", "bt", 2);
        bytesAre("b or t", 1, Edge.times(11, "ab1;") + "x", "bt", 46);
    }

    // a figure 1 to 9
    private static void promise5Figures() {
        bytesAre("a figure 1 to 9", 0, "ao", "123456789", NONE);
        bytesAre("a figure 1 to 9", 1, "at", "123456789", NONE);
        bytesAre("a figure 1 to 9", 1, Edge.times(11, "ab1;") + "xb", "123456789", NONE);
    }

    // with ; between them
    private static void promise5Between() {
        bytesAre("; between", 0, "ao1", ";", 4);
        bytesAre("; between", 1, "at1", ";", 4);
        faultIs("; twice", 0, "ao1;;", 4);
        faultIs("; ahead", 0, ";ao1", 0);
        faultIs("none between", 0, "ao1bo1", 3);
        faultIs("; ahead", 1, ";at1", 0);
        faultIs("none between", 1, "at1at1", 3);
        faultIs("; between figures", 2, "1;2", 1);
    }

    // here also of a letter where another CAR hangs
    private static void promise5WhereAnotherHangs() {
        bytesAre("another CAR hangs there", 0, "ao1;", "bcdefghijklmnopqrstuvwx", 5);
        bytesAre("another CAR hangs there", 0, "ao1;xs2;", "bcdefghijklmnopqrstuvw", 9);
        bytesAre("another CAR hangs there", 0, "ao1;bs2;cg3;do4;xs5;", "efghijklmnopqrstuvw", 21);
        faultIs("as the first", 0, "ao1;bs2;cg3;do4;es5;ag6", 20);
        faultIs("as the one ahead", 0, "ao1;bs2;cg3;do4;es5;eg6", 20);
        faultIs("a place beside", 0, "ao1;bs2;cg3;do4;es5;fg6", NONE);
        faultIs("round it is no other place", 0, "ao1;xs2", NONE);
        faultIs("COMINGS may be alike", 1, "at1;at1;ab1", NONE);
        faultIs("a sort like a letter", 0, "so1;os1;gg1", NONE);
    }

    // the place of the first byte with which it cannot go on
    private static void promise5TheFirstByteOfSeveral() {
        faultIs("the first", 0, "yy0,", 0);
        faultIs("the first", 0, "ay0,", 1);
        faultIs("the first", 0, "ao0,", 2);
        faultIs("the first", 0, "ao1,y", 3);
        faultIs("a letter ahead of a figure", 0, "ao1;as0", 4);
        faultIs("a figure ahead of a letter", 0, "ao0;as1", 2);
        faultIs("the first", 1, "yo0", 0);
        faultIs("the first", 1, "ao0", 1);
        faultIs("the first", 2, "3495", 1);
    }

    // of the first byte of a seventh CAR, of a thirteenth COMING: the texts have no room for one
    private static void promise5SixCarsTwelveComings() {
        faultIs("six CARS", 0, Edge.SIX_CARS, NONE);
        faultIs("five CARS and ;", 0, Edge.SIX_CARS.substring(0, 20), 20);
        CableCars x = Due.told(Edge.SIX_CARS + ";bs1", Edge.TWELVE_COMINGS + ";ab1", "");
        edge.is("5 no seventh CAR", x.fault(0), NONE);
        edge.is("5 six CARS", x.count(0), 6);
        edge.is("5 no thirteenth COMING", x.fault(1), NONE);
        edge.is("5 twelve COMINGS", x.count(1), 12);
        faultIs("twelve COMINGS", 1, Edge.TWELVE_COMINGS, NONE);
        faultIs("eleven COMINGS and ;", 1, Edge.TWELVE_COMINGS.substring(0, 44), 44);
    }

    // up to 24 figures 0 to 3
    private static void promise5SpeedFigures() {
        bytesAre("figures 0 to 3", 2, "", "0123", NONE);
        bytesAre("figures 0 to 3", 2, Edge.times(23, "3"), "0123", NONE);
    }

    // With a FAULT a text is as if it was empty
    private static void promise5AsIfItWasEmpty() {
        for (int text = 0; text <= 2; text++) {
            CableCars x = Edge.full();
            x.undo(text);
            x.type(text, 'z');
            edge.is("5 the last byte", x.fault(text), LIMITS[text] - 1);
            CableCars y = Edge.full();
            y.wipe(text);
            for (int moment = 0; moment <= 23; moment++) {
                for (int what = 0; what <= 3; what++) {
                    edge.is("5 as if text " + text + " was empty", x.waits(moment, what), y.waits(moment, what));
                }
                edge.is("5 as if text " + text + " was empty", x.speed(moment), y.speed(moment));
            }
            edge.is("5 as if it was empty: none", x.count(text), 0);
            edge.is("5 its bytes are there", x.count(3 + text), LIMITS[text]);
            edge.is("5 IDLE", x.idle(), y.idle());
            edge.is("5 LEFT", x.left(), y.left());
            edge.is("5 CAR", x.car(0, 0), y.car(0, 0));
            edge.is("5 COMING", x.coming(11, 2), y.coming(11, 2));
            edge.is("5 YEARS", x.years(3, 24, 1), y.years(3, 24, 1));
        }
    }

    // 6: BAD
    private static void promise6Numbers() {
        edge.range("6 CAR, six of them", 0, 5, (x, car) -> x.car(car, 0));
        edge.range("6 what", 0, 2, (x, what) -> x.car(5, what));
    }

    // 6: no such thing
    private static void promise6FewerCars() {
        for (int n = 0; n <= 6; n++) {
            CableCars x = Due.told(Edge.SIX_CARS.substring(0, Math.max(0, 4 * n - 1)), "", "");
            for (int car = -1; car <= 6; car++) {
                edge.is("6 of " + n + " CARS " + car, x.car(car, 2) == BAD ? 0 : 1, car >= 0 && car < n ? 1 : 0);
            }
        }
    }

    // 6: as told
    private static void promise6LeastAndGreatest() {
        CableCars x = Due.told("ag1;xg9;bs1;wo9", "", "0");
        int[] want = {0, 2, 1, 23, 2, 9, 1, 1, 1, 22, 0, 9};
        for (int i = 0; i < 12; i++) {
            edge.is("6 CAR " + i / 3 + " what " + i % 3, x.car(i / 3, i % 3), want[i]);
        }
        x.event(2, 0, 0);
        edge.is("6 JAMMED, as told", x.car(0, 2), 1);
    }

    // 7: BAD
    private static void promise7Numbers() {
        edge.range("7 i (0 to 11)", 0, 11, (x, i) -> x.coming(i, 0));
        edge.range("7 what", 0, 2, (x, what) -> x.coming(11, what));
        edge.refusedWhenNew("7 BAD though there are none", x -> x.coming(12, 0), BAD);
        edge.refusedWhenNew("7 BAD though there are none", x -> x.coming(-1, 0), BAD);
        edge.refusedWhenNew("7 what, though there is none", x -> x.coming(0, 3), BAD);
        edge.refusedWhenNew("7 what, though there is none", x -> x.coming(11, -1), BAD);
    }

    // 7: NONE: there is none
    private static void promise7None() {
        for (int n = 0; n <= 12; n++) {
            CableCars x = Due.told("", Edge.TWELVE_COMINGS.substring(0, Math.max(0, 4 * n - 1)), "");
            for (int i = 0; i <= 11; i++) {
                for (int what = 0; what <= 2; what++) {
                    edge.is("7 of " + n + " COMINGS " + i, x.coming(i, what) == NONE ? 0 : 1, i < n ? 1 : 0);
                }
            }
            edge.is("7 12", x.coming(12, 0), BAD);
        }
    }

    private static void promise7LeastAndGreatest() {
        CableCars x = Due.told("", "ab1;xt9;bt1;wb9", "");
        int[] want = {0, 0, 1, 23, 1, 9, 1, 1, 1, 22, 0, 9};
        for (int i = 0; i < 12; i++) {
            edge.is("7 COMING " + i / 3 + " what " + i % 3, x.coming(i / 3, i % 3), want[i]);
        }
    }

    // 8: BAD
    private static void promise8Moment() {
        edge.range("8 MOMENT", 0, 23, (x, moment) -> x.speed(moment));
        edge.refusedWhenNew("8 MOMENT -1", x -> x.speed(-1), BAD);
        edge.refusedWhenNew("8 MOMENT 24", x -> x.speed(24), BAD);
    }

    // 8: 1 in later ones
    private static void promise8LaterOnes() {
        for (int n = 0; n <= 24; n++) {
            CableCars x = Due.told("", "", Edge.times(n, "3"));
            for (int moment = 0; moment <= 23; moment++) {
                edge.is("8 of " + n + " figures, MOMENT " + moment, x.speed(moment), moment < n ? 3 : 1);
            }
        }
    }

    private static void promise8AsTold() {
        CableCars x = Due.told("", "", "0123");
        x.event(1, 3, 0);
        for (int moment = 0; moment <= 3; moment++) {
            edge.is("8 figures 0 to 3, a STOP or none", x.speed(moment), moment);
        }
    }

    // 9: BAD
    private static void promise9Numbers() {
        edge.range("9 kind", 0, 2, (x, kind) -> x.event(kind, 0, 0));
        edge.range("9 MOMENT", 0, 23, (x, moment) -> x.event(0, moment, 0));
        for (int k = 0; k <= 2; k++) {
            int kind = k;
            edge.range("9 number 0 to 5, kind " + kind, 0, 5, (x, number) -> x.event(kind, 0, number));
            edge.refusedWhenNew("9 number -1", x -> x.event(kind, 0, -1), BAD);
            edge.refusedWhenNew("9 number 6", x -> x.event(kind, 0, 6), BAD);
            edge.is("9 number 0", new CableCars().event(kind, 23, 0), 1);
            edge.is("9 number 5", new CableCars().event(kind, 0, 5), 1);
        }
        edge.refusedWhenNew("9 kind -1", x -> x.event(-1, 0, 0), BAD);
        edge.refusedWhenNew("9 kind 3", x -> x.event(3, 0, 0), BAD);
        edge.refusedWhenNew("9 MOMENT -1", x -> x.event(1, -1, 0), BAD);
        edge.refusedWhenNew("9 MOMENT 24", x -> x.event(1, 24, 0), BAD);
    }

    // EVENTS, 8 at most
    private static void promise9EightAtMost() {
        CableCars x = new CableCars();
        for (int i = 1; i <= 8; i++) {
            edge.is("9 how many", x.event(i % 3, 0, 0), i);
        }
        edge.is("9 a ninth", x.event(0, 0, 0), FULL);
        edge.is("9 eight", x.count(6), 8);
        edge.refusedWhenFull("9 FULL", y -> y.event(1, 0, 0), FULL);
        edge.refusedWhenFull("9 BAD ahead of FULL", y -> y.event(3, 0, 0), BAD);
        edge.refusedWhenFull("9 BAD ahead of FULL", y -> y.event(0, 24, 0), BAD);
        edge.refusedWhenFull("9 BAD ahead of FULL", y -> y.event(0, 0, 6), BAD);
    }

    // 0 a GUST in it, 1 a STOP in it (both whatever number is told)
    private static void promise9WhateverNumber() {
        for (int number = 0; number <= 5; number++) {
            CableCars gust = Due.told("xo4;ls1", "ab4", "");
            gust.event(0, 0, number);
            edge.is("9 a GUST, number " + number, gust.waits(0, 0), 4);
            CableCars stop = Due.told("xo4;ls1", "ab4", "");
            stop.event(1, 0, number);
            edge.is("9 a STOP, number " + number, stop.at(0, 0, 0), 23);
            edge.is("9 a STOP, number " + number, stop.at(0, 1, 0), 11);
        }
    }

    // 2 that CAR is JAMMED from it on
    private static void promise9ThatCarFromItOn() {
        // each of the six stands at the bottom or not; by three places a moment each comes to it within eight moments
        for (int number = 0; number <= 5; number++) {
            CableCars x = Due.told("xs1;ts1;ps1;ls1;hs1;ds1", "ab9", Edge.times(8, "3"));
            x.event(2, 0, number);
            edge.is("9 nobody gets into that CAR", x.idle(), 1 << number);
        }
        // it comes to the top in moment 12
        for (int moment = 11; moment <= 13; moment++) {
            CableCars x = Due.told("xs4", "ab4", "");
            x.event(2, moment, 0);
            edge.is("9 JAMMED from " + moment + " on", x.over(1), moment <= 12 ? 0 : 4);
        }
        // it comes to the bottom in moment 23
        for (int moment = 22; moment <= 23; moment++) {
            CableCars x = Due.told("as4", "xb4", "");
            x.event(2, moment, 0);
            edge.is("9 JAMMED in the last", x.waits(23, 0), 4);
        }
        CableCars y = Due.told("as4", "xb4", "");
        edge.is("9 not JAMMED", y.waits(23, 0), 0);
    }

    private static void promise9ACarThatIsNotThere() {
        CableCars x = new CableCars();
        edge.is("9 of no CAR", x.event(2, 0, 5), 1);
        Due.typeAll(x, 0, "xs1;bs1;cs1;ds1;es1");
        Due.typeAll(x, 1, "ab9");
        edge.is("9 five CARS are not that one", x.idle() & 1, 0);
        x.wipe(0);
        Due.typeAll(x, 0, "bs1;cs1;ds1;es1;fs1;xs1");
        edge.is("9 the sixth is, since it hangs", x.at(0, 5, 1), 0);
        x.back();
        edge.is("9 not JAMMED", x.at(0, 5, 1), 1);
    }

    // a GUST in it, a STOP in it: not in the one ahead, nor in the one behind
    private static void promise9InItAlone() {
        for (int moment = 11; moment <= 13; moment++) {
            CableCars gust = Due.told("xo4", "ab4", "");
            gust.event(0, moment, 0);
            edge.is("9 a GUST in " + moment, gust.over(1), moment == 12 ? 0 : 4);
            CableCars stop = Due.told("xo4", "ab4", "");
            stop.event(1, moment, 0);
            for (int m = 10; m <= 14; m++) {
                edge.is("9 a STOP in " + moment, stop.at(m, 0, 0), m < moment ? m : m - 1);
            }
        }
        CableCars first = Due.told("xs4", "", "");
        first.event(1, 0, 0);
        edge.is("9 a STOP in the first", first.at(23, 0, 0), 22);
        CableCars last = Due.told("xs4", "", "");
        last.event(1, 23, 0);
        edge.is("9 a STOP in the last", last.at(23, 0, 0), 22);
        edge.is("9 a STOP in the last", last.at(22, 0, 0), 22);
        CableCars twice = Due.told("xs4", "", "");
        twice.event(1, 5, 0);
        twice.event(1, 5, 1);
        edge.is("9 two STOPS in one", twice.at(23, 0, 0), 22);
    }

    // 10: NOT: there is none
    private static void promise10None() {
        edge.refusedWhenNew("10 NOT", x -> x.back(), NOT);
        CableCars x = new CableCars();
        x.event(0, 0, 0);
        edge.is("10 the only one", x.back(), 0);
        edge.is("10 NOT", x.back(), NOT);
        edge.is("10 none", x.count(6), 0);
    }

    // 10: The last EVENT is undone: how many are left
    private static void promise10TheLast() {
        CableCars x = Edge.full();
        for (int left = 7; left >= 0; left--) {
            edge.is("10 left", x.back(), left);
        }
        edge.is("10 NOT", x.back(), NOT);
        CableCars y = Due.told("xs4", "", "");
        for (int i = 0; i < 8; i++) {
            y.event(1, i, 0);
        }
        edge.is("10 eight STOPS", y.at(7, 0, 0), 23);
        edge.is("10 back", y.back(), 7);
        edge.is("10 the last, not the first", y.at(6, 0, 0), 23);
        edge.is("10 the last, not the first", y.at(7, 0, 0), 0);
        edge.is("10 space for one", y.event(2, 0, 0), 8);
        edge.is("10 for one alone", y.event(2, 0, 0), FULL);
        edge.is("10 the new one holds", y.at(7, 0, 0), 0);
    }

    // 11: BAD; NULL
    private static void promise11Sheet() {
        edge.range("11 SHEET", 0, 3, (x, s) -> x.read(s));
        edge.refusedWhenFull("11 NULL", x -> x.read(3), NULL);
        for (int t = 0; t <= 3; t++) {
            int s = t;
            edge.refusedWhenNew("11 NULL " + s, x -> x.read(s), NULL);
        }
        edge.refusedWhenNew("11 BAD ahead of NULL", x -> x.read(4), BAD);
        edge.refusedWhenNew("11 BAD ahead of NULL", x -> x.read(-1), BAD);
        CableCars lost = new CableCars();
        lost.sheet(2, 0, 3);
        lost.lose(2);
        edge.is("11 LOST again", lost.read(2), NULL);
    }

    // 11: three for each, as many as are whole
    private static void promise11AsManyAsAreWhole() {
        for (int n = 0; n <= 60; n++) {
            CableCars x = new CableCars();
            x.sheet(0, 0, n);
            edge.is("11 of " + n + " items", x.read(0), Math.min(8, n / 3));
            edge.is("11 EVENTS of " + n + " items", x.count(6), Math.min(8, n / 3));
        }
    }

    private static void readIs(String sentence, int want, int... items) {
        for (int form = 0; form <= 2; form++) {
            CableCars x = new CableCars();
            Edge.putAll(x, form, form, items);
            edge.is("11 " + sentence, x.read(form), want);
            edge.is("11 " + sentence + ", EVENTS", x.count(6), want);
            edge.is("11 " + sentence + ", no FINDING", x.count(8), 0);
        }
    }

    // 11: as long as each may be
    private static void promise11AsLongAsEachMayBe() {
        readIs("kind 2", 1, 2, 0, 0);
        readIs("kind 3", 0, 3, 0, 0);
        readIs("kind -1", 0, -1, 0, 0);
        readIs("MOMENT 23", 1, 0, 23, 0);
        readIs("MOMENT 24", 0, 0, 24, 0);
        readIs("MOMENT -1", 0, 0, -1, 0);
        readIs("number 5", 1, 0, 0, 5);
        readIs("number 6", 0, 0, 0, 6);
        readIs("number -1", 0, 0, 0, -1);
        readIs("the second may not be", 1, 0, 0, 0, 3, 0, 0, 0, 0, 0);
        readIs("the third may not be", 2, 0, 0, 0, 2, 23, 5, 1, 24, 0, 0, 0, 0);
        readIs("the eighth may not be", 7, 0, 0, 0, 0, 0, 0, 0, 0, 0, 0, 0, 0, 0, 0, 0, 0, 0, 0, 0, 0, 0, 0, 0, 6);
        CableCars x = Due.told("xs4", "", "");
        Edge.putAll(x, 0, 2, 1, 0, 0, 0, 0, 9, 1, 1, 0);
        edge.is("11 one, not two", x.read(0), 1);
        edge.is("11 the STOP ahead of it holds", x.at(0, 0, 0), 23);
        edge.is("11 the STOP behind it does not", x.at(1, 0, 0), 0);
    }

    // EVENTS, 8 at most: told before or not
    private static void promise11EightAtMost() {
        for (int told = 0; told <= 8; told++) {
            CableCars x = new CableCars();
            for (int i = 0; i < told; i++) {
                x.event(1, i, 0);
            }
            x.sheet(0, 0, 60);
            edge.is("11 behind " + told, x.read(0), 8 - told);
            edge.is("11 behind " + told, x.count(6), 8);
            edge.is("11 no more", x.event(0, 0, 0), FULL);
        }
        CableCars y = Due.told("xs4", "", "");
        y.event(1, 0, 0);
        Edge.putAll(y, 0, 0, 1, 1, 0);
        y.read(0);
        edge.is("11 they come behind those told", y.back(), 1);
        edge.is("11 the told one is there", y.at(1, 0, 0), 0);
    }

    private static void promise11Forms() {
        CableCars x = new CableCars();
        Edge.putAll(x, 0, 0, 256, 256 + 23, 256 + 5);
        edge.is("11 bytes: the lowest bits", x.read(0), 1);
        Edge.putAll(x, 1, 1, 65536, 65536 + 23, 65536 + 5);
        edge.is("11 shorts: the lowest bits", x.read(1), 1);
        Edge.putAll(x, 2, 2, 65536, 0, 0);
        edge.is("11 ints as they are", x.read(2), 0);
        Edge.putAll(x, 3, 2, 0, Edge.MIN, 0);
        edge.is("11 the least int", x.read(3), 0);
    }

    private static void promise11TheSheetStays() {
        CableCars x = new CableCars();
        Edge.putAll(x, 0, 0, 1, 2, 3, 4);
        edge.is("11 read", x.read(0), 1);
        edge.is("11 read again", x.read(0), 1);
        for (int i = 0; i < 4; i++) {
            edge.is("11 its items stay", x.get(0, 0, i), i + 1);
        }
        edge.is("11 it stays", x.lose(0), 4);
        edge.is("11 EVENTS stay", x.count(6), 2);
    }
}

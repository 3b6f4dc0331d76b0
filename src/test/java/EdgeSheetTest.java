/** The edges of promises 32 to 39: sheets, count, digest. Each test bears its promise's number. */
public final class EdgeSheetTest {
    private static final int BAD = Edge.BAD, NONE = Edge.NONE, MIN = Edge.MIN, MAX = Edge.MAX;
    private static final int NULL = Edge.NULL, INDEX = Edge.INDEX, CAST = Edge.CAST, STORE = Edge.STORE, SIZE = Edge.SIZE;
    private static final Edge edge = new Edge("EdgeSheetTest");

    public static void main(String[] args) {
        promise32Numbers();
        promise32NoItemsToSixty();
        promise32Size();
        promise32BadAheadOfSize();
        promise32ANewRow();
        promise33Numbers();
        promise33Lost();
        promise33NoItemsToSixty();
        promise34Numbers();
        promise34Null();
        promise34Cast();
        promise34Index();
        promise34OrderOfRefusals();
        promise34TheLowestBits();
        promise34OneItemAlone();
        promise35Numbers();
        promise35Findings();
        promise35OrderOfRefusals();
        promise35TheLeastIntAsAnItem();
        promise36Sheets();
        promise36Null();
        promise36Store();
        promise36Index();
        promise36NotSoMany();
        promise36OrderOfRefusals();
        promise36NoItems();
        promise36WholeRows();
        promise36AsTheyWere();
        promise36Forms();
        promise37Numbers();
        promise37Null();
        promise37AsManyAsThereAreItems();
        promise37Forms();
        promise38Numbers();
        promise38NoneAndMost();
        promise38WithoutAFault();
        promise38TheLatestFinding();
        promise39ANewObject();
        promise39TextsWithFaults();
        promise39ChangesNothing();
        promise39NoCarsToSix();
        promise39WithoutFindingsAndSheets();
        edge.end();
    }

    // 32: BAD: SHEET, FORM, above 60
    private static void promise32Numbers() {
        edge.range("32 SHEET", 0, 3, (x, s) -> x.sheet(s, 0, 1));
        edge.range("32 FORM", 0, 2, (x, form) -> x.sheet(3, form, 1));
        edge.refusedWhenFull("32 above 60", x -> x.sheet(0, 0, 61), BAD);
        edge.refusedWhenFull("32 far above 60", x -> x.sheet(3, 2, MAX), BAD);
        edge.refusedWhenNew("32 SHEET 4", x -> x.sheet(4, 0, 1), BAD);
        edge.refusedWhenNew("32 FORM 3", x -> x.sheet(0, 3, 1), BAD);
        edge.refusedWhenNew("32 above 60", x -> x.sheet(0, 0, 61), BAD);
    }

    // of 0 to 60 items (0 at first)
    private static void promise32NoItemsToSixty() {
        for (int form = 0; form <= 2; form++) {
            for (int n : new int[] {0, 1, 59, 60}) {
                CableCars x = new CableCars();
                edge.is("32 " + n + " items", x.sheet(form, form, n), n);
                for (int i = 0; i < n; i++) {
                    edge.is("32 0 at first", x.get(form, form, i), 0);
                }
                edge.is("32 no FINDING", x.count(8), 0);
                edge.is("32 no item more", x.put(form, form, n, 1), INDEX);
                edge.is("32 it had", x.lose(form), n);
            }
        }
    }

    // SIZE: below 0
    private static void promise32Size() {
        for (int n : new int[] {-1, -60, -61, MIN}) {
            edge.is("32 SIZE " + n, new CableCars().sheet(0, 0, n), SIZE);
            CableCars x = new CableCars();
            x.sheet(2, 1, 3);
            x.put(2, 1, 2, 77);
            edge.is("32 SIZE " + n, x.sheet(2, 0, n), SIZE);
            edge.is("32 the FINDING", x.count(8), 5);
            edge.is("32 the row stays", x.get(2, 1, 2), 77);
            edge.is("32 LOST ones stay so", x.sheet(1, 0, n), SIZE);
            edge.is("32 LOST ones stay so", x.lose(1), NULL);
        }
    }

    private static void promise32BadAheadOfSize() {
        edge.refusedWhenFull("32 BAD ahead of SIZE: SHEET", x -> x.sheet(4, 0, -1), BAD);
        edge.refusedWhenFull("32 BAD ahead of SIZE: SHEET", x -> x.sheet(-1, 0, MIN), BAD);
        edge.refusedWhenFull("32 BAD ahead of SIZE: FORM", x -> x.sheet(0, 3, -1), BAD);
        edge.refusedWhenFull("32 BAD ahead of SIZE: FORM", x -> x.sheet(0, -1, MIN), BAD);
        CableCars x = new CableCars();
        edge.is("32 BAD is no FINDING", x.sheet(0, 3, -1), BAD);
        edge.is("32 BAD is no FINDING", x.count(8), 0);
    }

    private static void promise32ANewRow() {
        CableCars x = new CableCars();
        Edge.putAll(x, 0, 2, 1, 2, 3);
        edge.is("32 fewer", x.sheet(0, 2, 2), 2);
        edge.is("32 0 at first", x.get(0, 2, 1), 0);
        edge.is("32 more again", x.sheet(0, 2, 3), 3);
        edge.is("32 0 at first", x.get(0, 2, 2), 0);
        x.put(0, 2, 0, 9);
        edge.is("32 another FORM", x.sheet(0, 0, 3), 3);
        edge.is("32 another FORM", x.put(0, 2, 0, 1), CAST);
        edge.is("32 0 at first", x.get(0, 0, 0), 0);
        for (int s = 1; s <= 3; s++) {
            edge.is("32 the others are LOST", x.lose(s), NULL);
        }
        CableCars y = Edge.full();
        long before = y.digest();
        y.sheet(3, 2, 60);
        edge.is("32 nothing else changes", y.digest(), before);
        edge.is("32 the others stay", y.get(2, 2, 2), 62);
    }

    // 33: BAD
    private static void promise33Numbers() {
        edge.range("33 SHEET", 0, 3, (x, s) -> x.lose(s));
        edge.refusedWhenNew("33 BAD ahead of NULL", x -> x.lose(-1), BAD);
        edge.refusedWhenNew("33 BAD ahead of NULL", x -> x.lose(4), BAD);
    }

    // 33: NULL
    private static void promise33Lost() {
        edge.refusedWhenFull("33 NULL", x -> x.lose(3), NULL);
        for (int t = 0; t <= 3; t++) {
            int s = t;
            edge.refusedWhenNew("33 NULL " + s, x -> x.lose(s), NULL);
            CableCars x = new CableCars();
            x.sheet(s, 0, 1);
            edge.is("33 lose", x.lose(s), 1);
            edge.is("33 no FINDING", x.count(8), 0);
            edge.is("33 twice", x.lose(s), NULL);
            edge.is("33 the FINDING", x.count(8), 1);
            edge.is("33 again a row", x.sheet(s, 2, 2), 2);
            edge.is("33 lose", x.lose(s), 2);
        }
    }

    private static void promise33NoItemsToSixty() {
        CableCars x = new CableCars();
        x.sheet(0, 0, 0);
        edge.is("33 no items, yet not LOST", x.lose(0), 0);
        x.sheet(0, 2, 60);
        edge.is("33 sixty", x.lose(0), 60);
        CableCars y = Edge.full();
        y.lose(1);
        edge.is("33 the others stay", y.get(0, 0, 2), 42);
        edge.is("33 the others stay", y.get(2, 2, 0), 60);
    }

    // 34: BAD
    private static void promise34Numbers() {
        edge.range("34 SHEET", 0, 3, (x, s) -> x.put(s, 0, 0, 1));
        edge.range("34 FORM", 0, 2, (x, form) -> x.put(0, form, 0, 1));
    }

    private static void promise34Null() {
        edge.refusedWhenFull("34 NULL", x -> x.put(3, 0, 0, 1), NULL);
        for (int t = 0; t <= 3; t++) {
            int s = t;
            edge.refusedWhenNew("34 NULL " + s, x -> x.put(s, 0, 0, 1), NULL);
        }
        CableCars x = Edge.full();
        x.lose(0);
        edge.is("34 LOST again", x.put(0, 0, 0, 1), NULL);
    }

    // 34: CAST: it has another FORM
    private static void promise34Cast() {
        for (int u = 0; u <= 2; u++) {
            for (int f = 0; f <= 2; f++) {
                int s = u;
                int form = f;
                if (s == form) {
                    edge.is("34 its FORM", Edge.full().put(s, form, 0, 1), 1);
                } else {
                    edge.refusedWhenFull("34 CAST " + s + " as " + form, x -> x.put(s, form, 0, 1), CAST);
                }
            }
        }
    }

    // 34: INDEX: there is no such item
    private static void promise34Index() {
        for (int t = 0; t <= 2; t++) {
            int s = t;
            for (int wrong : new int[] {-1, 3, MIN, MAX, 60}) {
                edge.refusedWhenFull("34 INDEX " + wrong, x -> x.put(s, s, wrong, 1), INDEX);
            }
            edge.is("34 the first", Edge.full().put(s, s, 0, 1), 1);
            edge.is("34 the last", Edge.full().put(s, s, 2, 1), 1);
        }
        CableCars x = new CableCars();
        x.sheet(0, 0, 0);
        edge.is("34 of none the first", x.put(0, 0, 0, 1), INDEX);
        x.sheet(0, 0, 60);
        edge.is("34 of sixty the last", x.put(0, 0, 59, 1), 1);
        edge.is("34 of sixty one more", x.put(0, 0, 60, 1), INDEX);
    }

    // BAD; NULL; CAST; INDEX: the first that fits
    private static void promise34OrderOfRefusals() {
        edge.refusedWhenFull("34 BAD ahead of NULL", x -> x.put(3, 3, 0, 1), BAD);
        edge.refusedWhenFull("34 BAD ahead of CAST and INDEX", x -> x.put(0, -1, 3, 1), BAD);
        edge.refusedWhenFull("34 NULL ahead of INDEX", x -> x.put(3, 0, -1, 1), NULL);
        edge.refusedWhenFull("34 NULL ahead of CAST", x -> x.put(3, 2, 0, 1), NULL);
        edge.refusedWhenFull("34 CAST ahead of INDEX", x -> x.put(1, 0, 3, 1), CAST);
        edge.refusedWhenFull("34 CAST ahead of INDEX", x -> x.put(1, 2, -1, 1), CAST);
    }

    // becomes v (the lowest bits that it has)
    private static void promise34TheLowestBits() {
        int[] values = {0, 1, -1, 127, 128, 255, 256, -128, -129, 32767, 32768, 65535, 65536, -32768, -32769, MAX, MIN, MIN + 1};
        for (int v : values) {
            CableCars x = Edge.full();
            edge.is("34 a byte", x.put(0, 0, 1, v), 1);
            edge.is("34 a byte of " + v, x.get(0, 0, 1), (byte) v);
            edge.is("34 a short", x.put(1, 1, 1, v), 1);
            edge.is("34 a short of " + v, x.get(1, 1, 1), (short) v);
            edge.is("34 an int", x.put(2, 2, 1, v), 1);
            edge.is("34 an int of " + v, x.get(2, 2, 1), v);
        }
    }

    private static void promise34OneItemAlone() {
        CableCars x = Edge.full();
        x.put(0, 0, 1, -1);
        edge.is("34 the one ahead stays", x.get(0, 0, 0), 40);
        edge.is("34 the one behind stays", x.get(0, 0, 2), 42);
        edge.is("34 another SHEET stays", x.get(1, 1, 1), 51);
        edge.is("34 no FINDING", x.count(8), 0);
    }

    // 35: BAD: the least int
    private static void promise35Numbers() {
        for (int wrong : new int[] {-1, 4, MIN, MAX}) {
            edge.getRefused("35 SHEET " + wrong, x -> x.get(wrong, 0, 0), 0);
        }
        for (int wrong : new int[] {-1, 3, MIN, MAX}) {
            edge.getRefused("35 FORM " + wrong, x -> x.get(0, wrong, 0), 0);
        }
        CableCars x = Edge.full();
        for (int s = 0; s <= 2; s++) {
            for (int i = 0; i <= 2; i++) {
                edge.is("35 item " + i + " of " + s, x.get(s, s, i), 40 + 10 * s + i);
            }
        }
        edge.is("35 no FINDING", x.count(8), 0);
    }

    // so are NULL, CAST, INDEX (count() 8 tells)
    private static void promise35Findings() {
        edge.getRefused("35 NULL", x -> x.get(3, 0, 0), 1);
        edge.getRefused("35 CAST", x -> x.get(0, 1, 0), 3);
        edge.getRefused("35 CAST", x -> x.get(2, 0, 0), 3);
        for (int wrong : new int[] {-1, 3, MIN, MAX}) {
            edge.getRefused("35 INDEX " + wrong, x -> x.get(1, 1, wrong), 2);
        }
        CableCars x = new CableCars();
        x.sheet(0, 0, 0);
        edge.is("35 of none the first", x.get(0, 0, 0), MIN);
        edge.is("35 INDEX", x.count(8), 2);
        edge.is("35 LOST", x.get(1, 0, 0), MIN);
        edge.is("35 NULL", x.count(8), 1);
        x.sheet(0, 0, 60);
        edge.is("35 of sixty the last", x.get(0, 0, 59), 0);
        edge.is("35 of sixty one more", x.get(0, 0, 60), MIN);
    }

    private static void promise35OrderOfRefusals() {
        edge.getRefused("35 BAD ahead of NULL", x -> x.get(3, 3, 0), 0);
        edge.getRefused("35 BAD ahead of INDEX", x -> x.get(0, 3, 3), 0);
        edge.getRefused("35 NULL ahead of INDEX", x -> x.get(3, 1, -1), 1);
        edge.getRefused("35 CAST ahead of INDEX", x -> x.get(0, 1, 3), 3);
    }

    private static void promise35TheLeastIntAsAnItem() {
        CableCars x = new CableCars();
        Edge.putAll(x, 0, 2, MIN);
        edge.is("35 an item", x.get(0, 2, 0), MIN);
        edge.is("35 no FINDING", x.count(8), 0);
    }

    // 36: BAD: the SHEETS
    private static void promise36Sheets() {
        edge.range("36 SHEET s", 0, 3, (x, s) -> x.copy(s, 0, 0, 0, 1));
        edge.range("36 SHEET t", 0, 3, (x, t) -> x.copy(0, 0, t, 0, 1));
        edge.refusedWhenNew("36 BAD ahead of NULL", x -> x.copy(0, 0, 4, 0, 0), BAD);
        edge.refusedWhenNew("36 BAD ahead of NULL", x -> x.copy(-1, 0, 0, 0, 0), BAD);
    }

    // NULL: s, t
    private static void promise36Null() {
        edge.refusedWhenFull("36 NULL s", x -> x.copy(3, 0, 0, 0, 1), NULL);
        edge.refusedWhenFull("36 NULL t", x -> x.copy(0, 0, 3, 0, 1), NULL);
        edge.refusedWhenFull("36 NULL both", x -> x.copy(3, 0, 3, 0, 1), NULL);
        edge.refusedWhenFull("36 NULL, no items", x -> x.copy(0, 0, 3, 0, 0), NULL);
        edge.refusedWhenNew("36 NULL", x -> x.copy(0, 0, 1, 0, 0), NULL);
    }

    // STORE: unlike FORMS
    private static void promise36Store() {
        for (int u = 0; u <= 2; u++) {
            for (int w = 0; w <= 2; w++) {
                int s = u;
                int t = w;
                if (s == t) {
                    edge.is("36 like FORMS", Edge.full().copy(s, 0, t, 0, 3), 1);
                } else {
                    edge.refusedWhenFull("36 STORE " + s + ", " + t, x -> x.copy(s, 0, t, 0, 1), STORE);
                    edge.refusedWhenFull("36 STORE, no items", x -> x.copy(s, 0, t, 0, 0), STORE);
                }
            }
        }
    }

    // INDEX: below 0
    private static void promise36Index() {
        for (int wrong : new int[] {-1, MIN}) {
            edge.refusedWhenFull("36 i " + wrong, x -> x.copy(0, wrong, 0, 0, 1), INDEX);
            edge.refusedWhenFull("36 j " + wrong, x -> x.copy(0, 0, 0, wrong, 1), INDEX);
            edge.refusedWhenFull("36 n " + wrong, x -> x.copy(0, 0, 0, 0, wrong), INDEX);
            edge.refusedWhenFull("36 i " + wrong + ", no items", x -> x.copy(0, wrong, 0, 0, 0), INDEX);
            edge.refusedWhenFull("36 j " + wrong + ", no items", x -> x.copy(0, 0, 0, wrong, 0), INDEX);
            edge.refusedWhenFull("36 i and n " + wrong, x -> x.copy(0, 3, 0, 3, wrong), INDEX);
        }
    }

    // INDEX: not so many
    private static void promise36NotSoMany() {
        for (int i = 0; i <= 3; i++) {
            for (int j = 0; j <= 3; j++) {
                int from = i;
                int to = j;
                int most = 3 - Math.max(i, j);
                edge.is("36 as many as there are", Edge.full().copy(0, from, 0, to, most), 1);
                edge.refusedWhenFull("36 one more", x -> x.copy(0, from, 0, to, most + 1), INDEX);
            }
        }
        edge.refusedWhenFull("36 n wraps", x -> x.copy(0, 1, 0, 0, MAX), INDEX);
        edge.refusedWhenFull("36 n wraps", x -> x.copy(0, 0, 0, 1, MAX), INDEX);
        edge.refusedWhenFull("36 i and n wrap", x -> x.copy(0, MAX, 0, 0, 1), INDEX);
        edge.refusedWhenFull("36 i and n wrap", x -> x.copy(0, MAX, 0, 0, MAX), INDEX);
        edge.refusedWhenFull("36 j and n wrap", x -> x.copy(0, 0, 0, MAX, 1), INDEX);
        edge.refusedWhenFull("36 to 0 in all", x -> x.copy(0, MIN, 0, 0, MIN), INDEX);
        // s has more than t, t more than s
        CableCars x = new CableCars();
        Edge.putAll(x, 0, 1, 1, 2, 3, 4, 5);
        Edge.putAll(x, 1, 1, 6, 7, 8);
        edge.is("36 four into three", x.copy(0, 0, 1, 0, 4), INDEX);
        edge.is("36 four out of three", x.copy(1, 0, 0, 0, 4), INDEX);
        edge.is("36 nothing came", x.get(0, 1, 0) * 10 + x.get(1, 1, 0), 16);
        edge.is("36 three into three", x.copy(0, 2, 1, 0, 3), 1);
        edge.is("36 they came", x.get(1, 1, 0) * 100 + x.get(1, 1, 1) * 10 + x.get(1, 1, 2), 345);
    }

    private static void promise36OrderOfRefusals() {
        edge.refusedWhenFull("36 BAD ahead of INDEX", x -> x.copy(4, -1, 0, 0, 1), BAD);
        edge.refusedWhenFull("36 BAD t ahead of NULL s", x -> x.copy(3, 0, 4, 0, 1), BAD);
        edge.refusedWhenFull("36 NULL ahead of STORE", x -> x.copy(2, 0, 3, 0, 1), NULL);
        edge.refusedWhenFull("36 NULL ahead of INDEX", x -> x.copy(3, -1, 0, 9, 1), NULL);
        edge.refusedWhenFull("36 STORE ahead of INDEX", x -> x.copy(0, -1, 1, 0, 1), STORE);
        edge.refusedWhenFull("36 STORE ahead of INDEX", x -> x.copy(0, 0, 1, 0, -1), STORE);
        edge.refusedWhenFull("36 STORE ahead of INDEX", x -> x.copy(0, 0, 1, 3, 1), STORE);
    }

    private static void promise36NoItems() {
        for (int i = 0; i <= 3; i++) {
            edge.is("36 none from " + i, Edge.full().copy(0, i, 0, 3 - i, 0), 1);
        }
        edge.refusedWhenFull("36 none from behind the end", x -> x.copy(0, 4, 0, 0, 0), INDEX);
        edge.refusedWhenFull("36 none to behind the end", x -> x.copy(0, 0, 0, 4, 0), INDEX);
        CableCars x = new CableCars();
        x.sheet(0, 0, 0);
        edge.is("36 none of none", x.copy(0, 0, 0, 0, 0), 1);
        edge.is("36 one of none", x.copy(0, 0, 0, 0, 1), INDEX);
        edge.is("36 the FINDING", x.count(8), 2);
    }

    private static void promise36WholeRows() {
        CableCars x = new CableCars();
        x.sheet(0, 2, 60);
        x.sheet(3, 2, 60);
        for (int i = 0; i < 60; i++) {
            x.put(0, 2, i, i * i - 7);
        }
        edge.is("36 61", x.copy(0, 0, 3, 0, 61), INDEX);
        edge.is("36 60", x.copy(0, 0, 3, 0, 60), 1);
        for (int i = 0; i < 60; i++) {
            edge.is("36 item " + i, x.get(3, 2, i), i * i - 7);
        }
        edge.is("36 the last onto the first", x.copy(0, 59, 3, 0, 1), 1);
        edge.is("36 it came", x.get(3, 2, 0), 59 * 59 - 7);
    }

    // (perhaps s, as they were)
    private static void promise36AsTheyWere() {
        for (int i = 0; i <= 6; i++) {
            for (int j = 0; j <= 6; j++) {
                CableCars x = new CableCars();
                Edge.putAll(x, 1, 1, 10, 11, 12, 13, 14, 15);
                int n = 6 - Math.max(i, j);
                edge.is("36 onto itself", x.copy(1, i, 1, j, n), 1);
                for (int k = 0; k < 6; k++) {
                    edge.is("36 from " + i + " to " + j + ", item " + k, x.get(1, 1, k), k >= j && k < j + n ? 10 + k - j + i : 10 + k);
                }
            }
        }
    }

    private static void promise36Forms() {
        for (int form = 0; form <= 2; form++) {
            CableCars x = new CableCars();
            Edge.putAll(x, 0, form, MIN, MAX, -1, 128);
            x.sheet(1, form, 4);
            edge.is("36 FORM " + form, x.copy(0, 0, 1, 0, 4), 1);
            for (int i = 0; i < 4; i++) {
                edge.is("36 FORM " + form, x.get(1, form, i), x.get(0, form, i));
            }
            edge.is("36 no FINDING", x.count(8), 0);
        }
    }

    // 37: BAD
    private static void promise37Numbers() {
        edge.range("37 station", 0, 1, (x, station) -> x.write(station, 0));
        edge.range("37 SHEET", 0, 3, (x, s) -> x.write(0, s));
        edge.refusedWhenNew("37 BAD ahead of NULL", x -> x.write(2, 0), BAD);
        edge.refusedWhenNew("37 BAD ahead of NULL", x -> x.write(-1, 0), BAD);
        edge.refusedWhenNew("37 BAD", x -> x.write(0, 4), BAD);
    }

    // 37: NULL
    private static void promise37Null() {
        edge.refusedWhenFull("37 NULL", x -> x.write(1, 3), NULL);
        for (int t = 0; t <= 3; t++) {
            int s = t;
            edge.refusedWhenNew("37 NULL " + s, x -> x.write(0, s), NULL);
        }
    }

    // as many as there are items, 24 at most
    private static void promise37AsManyAsThereAreItems() {
        for (int n : new int[] {0, 1, 23, 24, 25, 60}) {
            CableCars x = Due.told("", "ab9;bt1;xb9;xt2", "");
            x.sheet(0, 2, n);
            for (int i = 0; i < n; i++) {
                x.put(0, 2, i, -5);
            }
            edge.is("37 of " + n + " items", x.write(0, 0), Math.min(24, n));
            for (int i = 0; i < n; i++) {
                edge.is("37 of " + n + " item " + i, x.get(0, 2, i), i < 23 ? 9 : i == 23 ? 18 : -5);
            }
            edge.is("37 no item more", x.put(0, 2, n, 0), INDEX);
        }
        CableCars y = Due.told("", "ab9;bt1;xb9;xt2", "");
        y.sheet(0, 0, 24);
        y.write(1, 0);
        edge.is("37 the top behind 0", y.get(0, 0, 0), 0);
        edge.is("37 the top behind 1", y.get(0, 0, 1), 1);
        edge.is("37 the top behind 23", y.get(0, 0, 23), 3);
        edge.is("37 no FINDING", y.count(8), 0);
    }

    private static void promise37Forms() {
        for (int form = 0; form <= 2; form++) {
            CableCars x = Due.told("", Edge.times(11, "ab9;") + "ab9", "");
            x.sheet(form, form, 1);
            edge.is("37 FORM " + form, x.write(0, form), 1);
            edge.is("37 108, FORM " + form, x.get(form, form, 0), 108);
        }
    }

    // 38: BAD
    private static void promise38Numbers() {
        edge.range("38 what", 0, 8, (x, what) -> x.count(what));
        edge.refusedWhenNew("38 what -1", x -> x.count(-1), BAD);
        edge.refusedWhenNew("38 what 9", x -> x.count(9), BAD);
    }

    private static void promise38NoneAndMost() {
        int[] most = {6, 12, 24, 23, 47, 24, 8, 8, 0};
        CableCars full = Edge.full();
        for (int what = 0; what <= 8; what++) {
            edge.is("38 none, " + what, new CableCars().count(what), 0);
            edge.is("38 most, " + what, full.count(what), most[what]);
        }
    }

    // figures of THE SPEED told (without a FAULT)
    private static void promise38WithoutAFault() {
        CableCars x = Due.told("ao1", "ab1", "3");
        int[] well = {1, 1, 1, 3, 3, 1, 0, 0, 0};
        int[] wrong = {0, 0, 0, 4, 4, 2, 0, 0, 0};
        for (int what = 0; what <= 8; what++) {
            edge.is("38 well, " + what, x.count(what), well[what]);
        }
        x.type(0, ';');
        x.type(1, ';');
        x.type(2, ';');
        for (int what = 0; what <= 8; what++) {
            edge.is("38 with FAULTS, " + what, x.count(what), wrong[what]);
        }
    }

    // 8 the number of the latest FINDING (0 before any)
    private static void promise38TheLatestFinding() {
        CableCars x = new CableCars();
        edge.is("38 before any", x.count(8), 0);
        x.type(3, 0);
        x.undo(0);
        x.back();
        x.get(4, 0, 0);
        edge.is("38 BAD and NOT are none", x.count(8), 0);
        x.lose(0);
        edge.is("38 NULL", x.count(8), 1);
        x.sheet(0, 0, 1);
        edge.is("38 it stays", x.count(8), 1);
        x.put(0, 0, 1, 0);
        edge.is("38 INDEX", x.count(8), 2);
        x.put(0, 1, 0, 0);
        edge.is("38 CAST", x.count(8), 3);
        x.sheet(1, 1, 1);
        x.copy(0, 0, 1, 0, 1);
        edge.is("38 STORE", x.count(8), 4);
        x.sheet(0, 0, -1);
        edge.is("38 SIZE", x.count(8), 5);
        x.sheet(0, 0, 61);
        x.put(0, 0, 0, 1);
        x.digest();
        edge.is("38 the latest stays", x.count(8), 5);
        x.read(3);
        edge.is("38 NULL again", x.count(8), 1);
    }

    private static long mix(long h, int times, long... values) {
        for (int i = 0; i < times; i++) {
            for (long v : values) {
                h = 31 * h + v;
            }
        }
        return h;
    }

    // h is 17; h becomes 31 h and each of ..; as longs that wrap
    private static void promise39ANewObject() {
        long h = mix(17, 8, 0);
        h = mix(h, 3, NONE);
        h = mix(h, 36, NONE);
        h = mix(h, 24, 1, 0, 0, 0, 0);
        h = mix(h, 2, 0, 0, 0);
        h = mix(h, 1, 0, NONE, NONE, 0, 0, 0, 0, 0, 0, 1, 1, 0, NONE, 0, 0, 0);
        edge.is("39 a new object", new CableCars().digest(), h);
    }

    private static void promise39TextsWithFaults() {
        CableCars x = Due.told("y", "ab", "14");
        long h = mix(17, 1, 0, 0, 0, 1, 2, 2, 0, 0);
        h = mix(h, 1, 0, 2, 1);
        h = mix(h, 36, NONE);
        h = mix(h, 24, 1, 0, 0, 0, 0);
        h = mix(h, 2, 0, 0, 0);
        h = mix(h, 1, 0, NONE, NONE, 0, 0, 0, 0, 0, 0, 1, 1, 0, NONE, 0, 0, 0);
        edge.is("39 with FAULTS", x.digest(), h);
        // one waits at the bottom from 0 on, and a STOP
        CableCars y = Due.told("", "ab1", "3");
        y.event(1, 0, 0);
        h = mix(17, 1, 0, 1, 1, 0, 3, 1, 1, 0);
        h = mix(h, 3, NONE);
        h = mix(h, 1, 0, 0, 1);
        h = mix(h, 33, NONE);
        h = mix(h, 1, 3, 1, 0, 0, 0);
        h = mix(h, 23, 1, 1, 0, 0, 0);
        h = mix(h, 1, 0, 0, 1, 0, 0, 0);
        h = mix(h, 1, 0, NONE, NONE, 0, 1, 0, 0, 0, 0, 0, 1, NONE, NONE, 1, 0, 0);
        edge.is("39 one waits", y.digest(), h);
    }

    private static void promise39ChangesNothing() {
        CableCars x = Edge.full();
        x.lose(3);
        long h = x.digest();
        edge.is("39 again", x.digest(), h);
        edge.is("39 no FINDING of its own", x.count(8), 1);
        edge.is("39 the same calls, the same answer", Edge.full().digest(), h);
    }

    /** What digest() asks of each CAR, and around it. */
    private static long byCalls(CableCars x) {
        long h = 17;
        for (int what = 0; what <= 7; what++) {
            h = mix(h, 1, x.count(what));
        }
        h = mix(h, 1, x.fault(0), x.fault(1), x.fault(2));
        for (int i = 0; i <= 11; i++) {
            h = mix(h, 1, x.coming(i, 0), x.coming(i, 1), x.coming(i, 2));
        }
        for (int m = 0; m <= 23; m++) {
            h = mix(h, 1, x.speed(m), x.waits(m, 0), x.waits(m, 1), x.waits(m, 2), x.waits(m, 3));
        }
        for (int c = 0; c < x.count(0); c++) {
            h = mix(h, 1, x.car(c, 0), x.car(c, 1), x.car(c, 2));
            for (int m : new int[] {0, 5, 12, 23}) {
                h = mix(h, 1, x.at(m, c, 0), x.at(m, c, 1));
            }
            h = mix(h, 1, x.carried(c), x.hang(c, 0), x.hang(c, 1), x.was(c, 0), x.was(c, 1), x.ask(c));
        }
        for (int s = 0; s <= 1; s++) {
            h = mix(h, 1, x.over(s), x.crowd(s, 0), x.crowd(s, 1));
        }
        h = mix(h, 1, x.sum(), x.first(0), x.first(1), x.idle(), x.left(), x.pace(8, 0), x.pace(8, 1), x.cheap(8, 0), x.cheap(8, 1));
        h = mix(h, 1, x.chance(5, 17, 0), x.chance(5, 17, 1), x.spare(NONE), x.spare(0), x.never());
        return mix(h, 1, x.years(7, 18, 0), x.years(7, 18, 1));
    }

    private static void promise39NoCarsToSix() {
        for (int n = 0; n <= 6; n++) {
            CableCars x = Due.told(Edge.SIX_CARS.substring(0, Math.max(0, 4 * n - 1)), Edge.TWELVE_COMINGS, Edge.ALL_SPEED);
            edge.is("39 of " + n + " CARS", x.digest(), byCalls(x));
        }
        CableCars full = Edge.full();
        edge.is("39 full", full.digest(), byCalls(full));
    }

    private static void promise39WithoutFindingsAndSheets() {
        CableCars x = Edge.full();
        long h = x.digest();
        x.put(0, 0, 9, 9);
        x.sheet(3, 2, 60);
        x.lose(1);
        edge.is("39 not of count() 8, nor of SHEETS", x.digest(), h);
        x.back();
        edge.due.holds("39 of EVENTS", x.digest() != h);
    }
}

/** Holds answers against those that are due, and tells which are not. */
final class Due {
    private final String name;
    private int asked = 0;
    private int wrong = 0;

    Due(String name) {
        this.name = name;
    }

    void is(String call, long got, long want) {
        asked++;
        if (got != want) {
            tell(call + " answered " + got + ", due is " + want);
        }
    }

    void tell(String what) {
        wrong++;
        if (wrong <= 50) {
            System.out.println(name + ": " + what);
        }
    }

    void holds(String what, boolean so) {
        asked++;
        if (!so) {
            tell(what);
        }
    }

    boolean isWrong() {
        return wrong > 0;
    }

    void end() {
        System.out.println(name + ": " + asked + " looked at, " + wrong + " wrong");
        if (wrong > 0 || asked == 0) {
            System.exit(1);
        }
    }

    static void typeAll(CableCars x, int text, String bytes) {
        for (int i = 0; i < bytes.length(); i++) {
            x.type(text, bytes.charAt(i));
        }
    }

    static CableCars told(String cars, String comings, String speed) {
        CableCars x = new CableCars();
        typeAll(x, 0, cars);
        typeAll(x, 1, comings);
        typeAll(x, 2, speed);
        return x;
    }
}

/** Counts the answers that are not as due, and tells each of them. */
final class Due {
    interface Call {
        Object make();
    }

    private final String test;
    private int made = 0;
    private int wrong = 0;

    Due(String test) {
        this.test = test;
    }

    /** What a call answers, as text; an exception as throws. and its name. */
    static String outcome(Call call) {
        try {
            return String.valueOf(call.make());
        } catch (RuntimeException e) {
            return "throws." + e.getClass().getSimpleName();
        }
    }

    void same(String what, Object want, Call call) {
        String got = outcome(call);
        made++;
        if (!got.equals(String.valueOf(want))) {
            wrong++;
            System.out.println(what + " answered " + got + ", due is " + want);
        }
    }

    void isTrue(String what, boolean holds) {
        same(what, true, () -> holds);
    }

    boolean hasWrong() {
        return wrong > 0;
    }

    void end() {
        System.out.println(test + ": " + made + " answers, " + wrong + " not as due");
        if (wrong > 0) {
            System.exit(1);
        }
    }
}

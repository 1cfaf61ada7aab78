/** What the project's tests share: counting wrong answers, and empires to begin with. */
final class Check {
    private final String test;
    private int wrong = 0;

    Check(String test) {
        this.test = test;
    }

    interface Call {
        Object run();
    }

    /** Compares an answer; numbers count by their value, whatever their type. */
    void due(String what, Object want, Object got) {
        if (!text(want).equals(text(got))) {
            wrong++;
            System.out.println(test + ": " + what + " answered " + text(got) + ", due is " + text(want));
        }
    }

    /** The class itself is due: one below it comes from the machine, not from the program. */
    void dueThrown(String what, Class<?> want, Call call) {
        due(what, want.getName(), thrownBy(call));
    }

    void noIndex(String what, Call call) {
        dueThrown(what, IndexOutOfBoundsException.class, call);
    }

    void noArgument(String what, Call call) {
        dueThrown(what, IllegalArgumentException.class, call);
    }

    void noState(String what, Call call) {
        dueThrown(what, IllegalStateException.class, call);
    }

    private static String thrownBy(Call call) {
        try {
            return "the answer " + call.run();
        } catch (RuntimeException e) {
            boolean isOfProgram = e.getStackTrace().length == 0
                    || e.getStackTrace()[0].getClassName().startsWith("Milletcourt");
            return isOfProgram ? e.getClass().getName() : e.getClass().getName() + " of the machine";
        }
    }

    private static String text(Object answer) {
        return String.valueOf(answer);
    }

    void end() {
        System.out.println(test + ": " + (wrong == 0 ? "all as due" : wrong + " not as due"));
        if (wrong != 0) {
            System.exit(1);
        }
    }

    static Milletcourt empire(int communities) {
        Milletcourt x = new Milletcourt();
        for (int i = 0; i < communities; i++) {
            x.community();
        }
        return x;
    }

    static int man(Milletcourt x, int faith) {
        return x.person(true, -1, -1, faith);
    }

    static int woman(Milletcourt x, int faith) {
        return x.person(false, -1, -1, faith);
    }

    /** More days than one call lets go by. */
    static void passDays(Milletcourt x, int days) {
        for (int left = days; left > 0; left -= Math.min(left, 2000)) {
            x.pass(Math.min(left, 2000));
        }
    }

    /** Lets a grown person take a faith, 30 days on, before two witnesses. */
    static void take(Milletcourt x, int person, int faith, int one, int other) {
        x.turn(person, faith, one, other);
        x.pass(30);
    }
}

import java.util.ArrayList;
import java.util.Comparator;
import java.util.List;

/** What the project's tests share: counting wrong answers, and empires to begin with. */
final class Check {
    /** Of the 512 calls of an object; what is left is enough to set an empire up for a refused call. */
    private static final int CALLS_TO_LOOK = 400;

    private final String test;
    private final List<String> quotes = new ArrayList<>();
    private String words = "";
    private int wrong = 0;

    Check(String test) {
        this.test = test;
    }

    interface Call {
        Object run();
    }

    interface Begin {
        Milletcourt empire();
    }

    interface Told {
        Object to(Milletcourt x);
    }

    /** The words of the document's terms by which the next answers are due. */
    void says(String sentence) {
        quote("the terms", Document.terms(), sentence);
    }

    /** The words of a promise by which the next answers are due. */
    void promise(int number, String sentence) {
        quote("promise " + number, Document.promise(number), sentence);
    }

    private void quote(String where, String all, String sentence) {
        words = "";
        due(where + " say: " + sentence, true, all.contains(sentence));
        words = ", by " + where + ": " + sentence;
        quotes.add(sentence);
    }

    /** Each sentence of the document has to have its tests: what none of them quotes is not as due. */
    void allIsQuoted() {
        words = "";
        quotes.sort(Comparator.comparing(String::length).reversed());
        due("what of the terms is not quoted", "", unquoted(Document.terms()));
        for (int number = 1; number <= Document.PROMISES; number++) {
            due("what of promise " + number + " is not quoted", "", unquoted(Document.promise(number)));
        }
    }

    private String unquoted(String all) {
        String left = all;
        for (String quote : quotes) {
            left = left.replace(quote, "");
        }
        return left.trim();
    }

    /** Compares an answer; numbers count by their value, whatever their type. */
    void due(String what, Object want, Object got) {
        if (!text(want).equals(text(got))) {
            wrong++;
            System.out.println(test + ": " + what + " answered " + text(got) + ", due is " + text(want) + words);
        }
    }

    /** The class itself is due: one below it comes from the machine, not from the program. */
    void dueThrown(String what, Class<?> want, Call call) {
        due(what, want.getName(), thrownBy(call));
    }

    void noIndex(String what, Call call) {
        dueThrown(what, IndexOutOfBoundsException.class, call);
    }

    void noArgument(String what, Call call) {
        dueThrown(what, IllegalArgumentException.class, call);
    }

    void noState(String what, Call call) {
        dueThrown(what, IllegalStateException.class, call);
    }

    /** A call that throws changes nothing: an empire that refused it answers like one that never heard it. */
    void refused(String what, Class<?> want, Begin begin, Told call) {
        Milletcourt x = begin.empire();
        dueThrown(what, want, () -> call.to(x));
        String due = Look.at(begin.empire(), CALLS_TO_LOOK);
        due("behind " + what + ", the first line that differs", "none", firstUnlike(due, Look.at(x, CALLS_TO_LOOK)));
    }

    private static String firstUnlike(String due, String got) {
        String[] dueLines = due.split("\n");
        String[] gotLines = got.split("\n");
        for (int i = 0; i < Math.min(dueLines.length, gotLines.length); i++) {
            if (!dueLines[i].equals(gotLines[i])) {
                return gotLines[i] + ", not " + dueLines[i];
            }
        }
        return dueLines.length == gotLines.length ? "none" : "how many lines";
    }

    void noIndex(String what, Begin begin, Told call) {
        refused(what, IndexOutOfBoundsException.class, begin, call);
    }

    void noArgument(String what, Begin begin, Told call) {
        refused(what, IllegalArgumentException.class, begin, call);
    }

    void noState(String what, Begin begin, Told call) {
        refused(what, IllegalStateException.class, begin, call);
    }

    private static String thrownBy(Call call) {
        try {
            return "the answer " + call.run();
        } catch (RuntimeException e) {
            return e.getClass().getName() + (isOfTheMachine(e) ? " of the machine" : "");
        }
    }

    /** What does not begin in the class itself comes from the machine or its library, not from a throw of the class. */
    static boolean isOfTheMachine(Throwable thrown) {
        StackTraceElement[] trace = thrown.getStackTrace();
        return trace.length > 0 && !trace[0].getClassName().startsWith("Milletcourt");
    }

    private static String text(Object answer) {
        return String.valueOf(answer);
    }

    void end() {
        System.out.println(test + ": " + (wrong == 0 ? "all as due" : wrong + " not as due"));
        if (wrong != 0) {
            System.exit(1);
        }
    }

    static Milletcourt empire(int communities) {
        Milletcourt x = new Milletcourt();
        for (int i = 0; i < communities; i++) {
            x.community();
        }
        return x;
    }

    static int man(Milletcourt x, int faith) {
        return x.person(true, -1, -1, faith);
    }

    static int woman(Milletcourt x, int faith) {
        return x.person(false, -1, -1, faith);
    }

    /** More days than one call lets go by. */
    static void passDays(Milletcourt x, int days) {
        for (int left = days; left > 0; left -= Math.min(left, 2000)) {
            x.pass(Math.min(left, 2000));
        }
    }

    /** Lets a grown person take a faith, 30 days on, before two witnesses. */
    static void take(Milletcourt x, int person, int faith, int one, int other) {
        x.turn(person, faith, one, other);
        x.pass(30);
    }
}

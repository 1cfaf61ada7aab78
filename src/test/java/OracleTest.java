import java.lang.reflect.InvocationTargetException;
import java.lang.reflect.Method;
import java.util.ArrayList;
import java.util.List;
import java.util.Map;
import java.util.TreeMap;
import java.util.function.IntPredicate;

/** Runs of calls by chance, from fixed seeds, on a Milletcourt and on an Oracle, whose answers must be the same. */
public final class OracleTest {
    private static final int RUNS = 1500;
    private static final int CALLS = 480;
    private static final String[] CALLED = {
        "recognise", "decree", "decree", "rule", "law", "court", "person", "turn", "turn", "turn", "turn", "recant",
        "faith", "marry", "marry", "marry", "divorce", "divorce", "goods", "goods", "dies", "sue", "sue", "appear",
        "testify", "testify", "testify", "testify", "testify", "testify", "judge", "appeal", "appeal",
        "execute", "execute", "wins", "ofPerson",
        "ofMarriage", "ofSuit", "treasury", "all", "pass", "pass", "pass", "community",
    };

    private static final Map<String, Method> OF_MILLETCOURT = methodsOf(Milletcourt.class);
    private static final Map<String, Method> OF_ORACLE = methodsOf(Oracle.class);
    private static final Map<String, Integer> FINE = new TreeMap<>();

    private final Check check;
    private final int run;
    private final Milletcourt x = new Milletcourt();
    private final Oracle oracle = new Oracle();
    private long chance;
    private final List<String> told = new ArrayList<>();

    private OracleTest(Check check, int run) {
        this.check = check;
        this.run = run;
        this.chance = 0x9E3779B97F4A7C15L * (run + 1);
    }

    public static void main(String[] args) {
        Check check = new Check("OracleTest");
        for (int run = 0; run < RUNS; run++) {
            new OracleTest(check, run).go();
        }
        for (String name : OF_MILLETCOURT.keySet()) {
            check.due("enough answers of " + name, true, FINE.getOrDefault(name, 0) > RUNS / 3);
        }
        check.end();
    }

    private static Map<String, Method> methodsOf(Class<?> type) {
        Map<String, Method> found = new TreeMap<>();
        for (Method m : type.getDeclaredMethods()) {
            if (java.lang.reflect.Modifier.isPublic(m.getModifiers())) {
                found.put(m.getName(), m);
            }
        }
        return found;
    }

    private void go() {
        int communities = 1 + below(4);
        for (int i = 0; i < communities; i++) {
            compare("community");
        }
        int founders = 4 + below(20);
        for (int i = 0; i < founders; i++) {
            compare("person", below(2) == 0, -1, -1, below(communities));
        }
        for (int i = 0; i < (below(8) == 0 ? 1 : 3); i++) {
            compare("pass", 1700);
        }
        for (int i = told.size(); i < CALLS; i++) {
            callByChance();
            if (below(40) == 0) {
                compareAll();
            }
        }
        compareAll();
    }

    private int below(int bound) {
        chance ^= chance << 13;
        chance ^= chance >>> 7;
        chance ^= chance << 17;
        return (int) Math.floorMod(chance >>> 11, (long) bound);
    }

    /** Mostly a number that there is, now and then one beside, or far off. */
    private int among(int lowest, int count) {
        int odd = below(60);
        if (odd == 0) {
            return lowest - 1 - below(2);
        }
        if (odd == 1) {
            return lowest + count + below(2);
        }
        if (odd == 2 && below(4) == 0) {
            return below(2) == 0 ? Integer.MAX_VALUE : Integer.MIN_VALUE;
        }
        return lowest + below(Math.max(1, count));
    }

    private int anyPerson() {
        return among(0, oracle.persons());
    }

    /** Mostly one of those that the call is made for, if there is one. */
    private int mostly(int count, IntPredicate isFit) {
        List<Integer> fit = new ArrayList<>();
        for (int i = 0; i < count; i++) {
            if (isFit.test(i)) {
                fit.add(i);
            }
        }
        return fit.isEmpty() || below(8) == 0 ? among(0, count) : fit.get(below(fit.size()));
    }

    private int suitThatIs(int status, int orElse) {
        return mostly(oracle.suits(), s -> oracle.ofSuit(s, 0) == status || oracle.ofSuit(s, 0) == orElse);
    }

    private boolean isGrown(int person) {
        return oracle.ofPerson(person, 1) == 1 && oracle.today() - oracle.born(person) >= 5000;
    }

    private int anyCourt() {
        return among(-1, oracle.communities() + 1);
    }

    private int anyCommunity() {
        return among(0, oracle.communities());
    }

    private int cents() {
        return below(20) == 0 ? among(999998, 4) : 1 + below(900);
    }

    private int anyDay(int from) {
        return from + below(oracle.today() - from + 2) - below(20) / 19;
    }

    private boolean yes() {
        return below(2) == 0;
    }

    private void callByChance() {
        String name = CALLED[below(CALLED.length)];
        switch (name) {
            case "recognise" -> compare(name, anyCommunity(), below(3) > 0);
            case "decree" -> decree();
            case "rule" -> rule();
            case "law" -> compare(name, anyCourt(), among(0, 7), anyDay(0));
            case "court" -> compare(name, among(0, 4), anyPerson(), anyPerson(), anyDay(oracle.today() / 2));
            case "person" -> birth();
            case "turn" -> turn();
            case "recant" -> compare(name, mostly(oracle.persons(), p -> oracle.ofPerson(p, 3) != -1 && below(4) == 0));
            case "faith" -> faith();
            case "marry" -> marry();
            case "divorce" -> compare(name, among(0, oracle.marriages()), yes());
            case "goods" -> compare(name, anyPerson(), cents());
            case "dies" -> dies();
            case "sue" -> sue();
            case "testify" -> compare(name, suitThatIs(0, 0), mostly(oracle.persons(), this::isGrown), below(5) > 0);
            case "appear", "judge" -> compare(name, suitThatIs(0, 0));
            case "appeal" -> compare(name, suitThatIs(2, 3));
            case "execute" -> compare(name, suitThatIs(2, 2));
            case "wins" -> compare(name, among(0, oracle.suits()), anyCourt());
            case "ofPerson" -> compare(name, anyPerson(), among(0, 6));
            case "ofMarriage" -> compare(name, among(0, oracle.marriages()), among(0, 5));
            case "ofSuit" -> compare(name, among(0, oracle.suits()), among(0, 5));
            case "pass" -> compare(name, below(12) == 0 ? among(1, 2000) : 1 + below(35));
            default -> compare(name);
        }
    }

    private void decree() {
        int[] highest = {2, 3, 4, 100, 1, 1, 63};
        int what = among(0, 7);
        int number = what >= 0 && what < 7 ? among(0, highest[what] + 1) : 0;
        compare("decree", anyCourt(), what, number);
    }

    private void rule() {
        compare("rule", among(0, 4), among(0, 4));
    }

    private void birth() {
        int mother = below(4) == 0 ? -1 : anyPerson();
        int father = below(4) == 0 ? -1 : anyPerson();
        boolean isFoundling = mother == -1 && father == -1;
        compare("person", yes(), mother, father, isFoundling != (below(20) == 0) ? anyCommunity() : -1);
    }

    private void turn() {
        int community = anyCommunity();
        List<Integer> ofIt = new ArrayList<>();
        for (int p = 0; p < oracle.persons(); p++) {
            if (oracle.faith(p, oracle.today()) == community && isGrown(p)) {
                ofIt.add(p);
            }
        }
        boolean isByChance = ofIt.isEmpty() || below(10) == 0;
        int one = isByChance ? anyPerson() : ofIt.get(below(ofIt.size()));
        int other = isByChance ? anyPerson() : ofIt.get(below(ofIt.size()));
        compare("turn", mostly(oracle.persons(), this::isGrown), community, one, other);
    }

    private void faith() {
        int person = anyPerson();
        boolean isOne = person >= 0 && person < oracle.persons();
        compare("faith", person, isOne ? anyDay(oracle.born(person)) : 0);
    }

    private void marry() {
        int husband = mostly(oracle.persons(), this::isGrown);
        int wife = mostly(oracle.persons(), p -> isGrown(p) && oracle.ofPerson(p, 2) == 0);
        compare("marry", husband, wife, below(20) == 0 ? among(0, 1000001) : below(500));
    }

    private void sue() {
        int one = below(9);
        int other = mostly(oracle.persons(), p -> p < 9 && p != one && oracle.ofPerson(p, 1) == 1);
        boolean areBoth = one < oracle.persons() && other >= 0 && other < oracle.persons();
        int due = areBoth ? oracle.court(3, one, other, oracle.today()) : -1;
        compare("sue", one, other, below(3) == 0 ? anyCourt() : due, cents());
    }

    private void dies() {
        if (below(3) == 0) {
            compare("dies", anyPerson());
        }
    }

    private void compare(String name, Object... arguments) {
        StringBuilder call = new StringBuilder(name).append('(');
        for (Object argument : arguments) {
            call.append(call.charAt(call.length() - 1) == '(' ? "" : ", ").append(argument);
        }
        told.add(call.append(')').toString());
        Object due = answer(OF_ORACLE.get(name), oracle, arguments);
        Object got = answer(OF_MILLETCOURT.get(name), x, arguments);
        check.due("run " + run + ", call " + told.size() + ", " + call, due, got);
        if (due instanceof Class) {
            compareAll();
        } else {
            FINE.merge(name, 1, Integer::sum);
        }
    }

    private static Object answer(Method method, Object empire, Object[] arguments) {
        try {
            return method.invoke(empire, arguments);
        } catch (InvocationTargetException e) {
            boolean isOfTheMachine = empire instanceof Milletcourt && Check.isOfTheMachine(e.getCause());
            return isOfTheMachine ? e.getCause() + " of the machine" : e.getCause().getClass();
        } catch (IllegalAccessException e) {
            return e.getClass();
        }
    }

    /** Asks all of both that is to be asked, but of the days only some. */
    private void compareAll() {
        int today = oracle.today();
        for (int p = 0; p < oracle.persons(); p++) {
            for (int what = 0; what < 6; what++) {
                due("ofPerson", p, what, oracle.ofPerson(p, what), x.ofPerson(p, what));
            }
            for (int day = today; day >= Math.max(oracle.born(p), today - 300); day -= 1 + below(40)) {
                due("faith", p, day, oracle.faith(p, day), x.faith(p, day));
            }
        }
        for (int m = 0; m < oracle.marriages(); m++) {
            for (int what = 0; what < 5; what++) {
                due("ofMarriage", m, what, oracle.ofMarriage(m, what), x.ofMarriage(m, what));
            }
        }
        for (int s = 0; s < oracle.suits(); s++) {
            for (int what = 0; what < 5; what++) {
                due("ofSuit", s, what, oracle.ofSuit(s, what), x.ofSuit(s, what));
            }
        }
        for (int court = -1; court < oracle.communities(); court++) {
            for (int what = 0; what < 7; what++) {
                due("law of today", court, what, oracle.law(court, what, today), x.law(court, what, today));
            }
        }
        for (int matter = 0; matter < 4; matter++) {
            due("court of today", matter, 0, oracle.court(matter, 0, 1, today), x.court(matter, 0, 1, today));
        }
        due("treasury", 0, 0, oracle.treasury(), x.treasury());
        due("all", 0, 0, oracle.all(), x.all());
    }

    private void due(String name, int one, int other, long due, long got) {
        if (due != got) {
            check.due("run " + run + ", behind call " + told.size() + " (" + told.get(told.size() - 1) + "), "
                    + name + " of " + one + ", " + other, due, got);
        }
    }
}

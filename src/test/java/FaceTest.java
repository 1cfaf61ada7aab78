import java.lang.reflect.Constructor;
import java.lang.reflect.Field;
import java.lang.reflect.Method;
import java.lang.reflect.Modifier;
import java.util.Arrays;
import java.util.TreeSet;

/** Promise 1 and the public face: what is to be seen of the class, and nothing else. */
public final class FaceTest {
    private static final String[] METHODS = {
        "long all()", "boolean appeal(int)", "boolean appear(int)", "int community()",
        "int court(int,int,int,int)", "int decree(int,int,int)", "long dies(int)", "boolean divorce(int,boolean)",
        "long execute(int)", "int faith(int,int)", "long goods(int,int)", "boolean judge(int)",
        "int law(int,int,int)", "int marry(int,int,int)", "int ofMarriage(int,int)", "long ofPerson(int,int)",
        "int ofSuit(int,int)", "int pass(int)", "int person(boolean,int,int,int)", "int recant(int)",
        "boolean recognise(int,boolean)", "int rule(int,int)", "int sue(int,int,int,int)",
        "int testify(int,int,boolean)", "long treasury()", "int turn(int,int,int,int)", "boolean wins(int,int)",
    };
    private static final String[] CONSTANTS = {
        "NONE=-1", "EQUAL=0", "DOUBLE=1", "FIRST=2", "HUSBAND=0", "EITHER=1", "BOTH=2", "NEVER=3",
        "MARRIAGE=0", "DIVORCE=1", "ESTATE=2", "DEBT=3", "ONE=0", "OTHER=1", "ALIKE=2", "CROWN=3",
        "LASTS=0", "DIVORCED=1", "WIDOWED=2", "SEISED=0", "VOID=1", "WON=2", "LOST=3",
    };

    public static void main(String[] args) throws IllegalAccessException {
        Check check = new Check("FaceTest");
        check.due("the methods", new TreeSet<>(Arrays.asList(METHODS)), methods());
        check.due("the constants", new TreeSet<>(Arrays.asList(CONSTANTS)), constants());
        check.due("the class", Modifier.PUBLIC | Modifier.FINAL, Milletcourt.class.getModifiers());
        Constructor<?>[] constructors = Milletcourt.class.getDeclaredConstructors();
        check.due("constructors", 1, constructors.length);
        check.due("the constructor", "public Milletcourt()", constructors[0].toString());
        newObject(check);
        check.end();
    }

    private static TreeSet<String> methods() {
        TreeSet<String> seen = new TreeSet<>();
        for (Method m : Milletcourt.class.getDeclaredMethods()) {
            if (!Modifier.isPrivate(m.getModifiers()) && !m.isSynthetic()) {
                StringBuilder told = new StringBuilder(m.getReturnType() + " " + m.getName() + "(");
                for (Class<?> c : m.getParameterTypes()) {
                    told.append(told.charAt(told.length() - 1) == '(' ? "" : ",").append(c);
                }
                seen.add(told + ")");
            }
        }
        return seen;
    }

    private static TreeSet<String> constants() throws IllegalAccessException {
        TreeSet<String> seen = new TreeSet<>();
        for (Field f : Milletcourt.class.getDeclaredFields()) {
            if (!Modifier.isPrivate(f.getModifiers())) {
                seen.add(f.getName() + "=" + f.getInt(null));
            }
        }
        return seen;
    }

    private static void newObject(Check check) {
        Milletcourt x = new Milletcourt();
        check.due("treasury of a new object", 0, x.treasury());
        check.due("all of a new object", 0, x.all());
        check.noIndex("a community of a new object", () -> x.recognise(0, true));
        check.noIndex("a person of a new object", () -> x.ofPerson(0, 0));
        check.noIndex("a marriage of a new object", () -> x.ofMarriage(0, 0));
        check.noIndex("a suit of a new object", () -> x.ofSuit(0, 0));
        int[] lawsAtFirst = {0, 2, 1, 25, 1, 0, 63};
        for (int what = 0; what < lawsAtFirst.length; what++) {
            check.due("the crown's law " + what + " at first", lawsAtFirst[what], x.law(-1, what, 0));
        }
        check.due("the day after one day", 1, x.pass(1));
        check.due("objects are apart", 0, new Milletcourt().community() + x.community());
    }
}

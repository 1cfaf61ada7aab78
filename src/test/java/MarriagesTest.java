/** Promises 12, 13 and 24: marry, divorce, ofMarriage. */
public final class MarriagesTest {
    private static final Check CHECK = new Check("MarriagesTest");

    public static void main(String[] args) {
        marriages();
        wives();
        husbands();
        mixedOnes();
        lawOfTheCourt();
        divorcesByBoth();
        divorcesByHusband();
        divorcesByEither();
        neverDivorced();
        lawOfTheDay();
        dowersAtDivorce();
        CHECK.end();
    }

    /** Men 0, 1, 2 and women 3, 4, 5 of faith 0; man 6 and woman 7 of faith 1; all grown. */
    private static Milletcourt grown() {
        Milletcourt x = Check.empire(2);
        for (int i = 0; i < 6; i++) {
            x.person(i < 3, -1, -1, 0);
        }
        Check.man(x, 1);
        Check.woman(x, 1);
        Check.passDays(x, 5000);
        return x;
    }

    private static void marriages() {
        Milletcourt x = grown();
        CHECK.due("the first number", 0, x.marry(0, 3, 0));
        CHECK.due("the second number, the highest dower", 1, x.marry(1, 4, 1000000));
        CHECK.due("it lasts", Milletcourt.LASTS, x.ofMarriage(1, 0));
        CHECK.due("the husband", 1, x.ofMarriage(1, 1));
        CHECK.due("the wife", 4, x.ofMarriage(1, 2));
        CHECK.due("the dower", 1000000, x.ofMarriage(1, 3));
        CHECK.due("the court", 0, x.ofMarriage(1, 4));
    }

    private static void wives() {
        Milletcourt x = grown();
        x.marry(0, 3, 0);
        CHECK.noState("a second wife", () -> x.marry(0, 4, 0));
        x.decree(0, 2, 2);
        x.marry(0, 4, 0);
        CHECK.noState("a third wife", () -> x.marry(0, 5, 0));
        x.decree(0, 2, 4);
        x.marry(0, 5, 0);
        CHECK.due("a fourth one", 3, x.marry(0, 7, 0));
        CHECK.due("how many last", 4, x.ofPerson(0, 2));
        int fifth = Check.woman(x, 0);
        Check.passDays(x, 5000);
        CHECK.noState("a fifth one", () -> x.marry(0, fifth, 0));
        x.dies(3);
        CHECK.due("in the place of the dead", 4, x.marry(0, fifth, 0));
    }

    private static void husbands() {
        Milletcourt x = grown();
        x.decree(0, 2, 4);
        x.decree(0, 1, 1);
        x.marry(0, 3, 0);
        CHECK.noState("a second husband", () -> x.marry(1, 3, 0));
        CHECK.noState("the same again", () -> x.marry(0, 3, 0));
        x.divorce(0, false);
        CHECK.due("when divorced", 1, x.marry(1, 3, 0));
        x.dies(1);
        CHECK.due("when widowed", 2, x.marry(0, 3, 0));
    }

    private static void mixedOnes() {
        Milletcourt x = grown();
        x.decree(0, 4, 0);
        CHECK.noState("the husband's law takes none", () -> x.marry(0, 7, 0));
        CHECK.due("alike ones it takes", 0, x.marry(0, 3, 0));
        CHECK.due("another husband's law takes it", 1, x.marry(6, 4, 0));
        CHECK.due("the court", 1, x.ofMarriage(1, 4));
    }

    private static void lawOfTheCourt() {
        Milletcourt x = grown();
        x.decree(0, 4, 0);
        x.rule(0, 1);
        CHECK.due("by OTHER", 0, x.marry(0, 7, 0));
        CHECK.due("its court", 1, x.ofMarriage(0, 4));
        x.rule(0, 2);
        x.decree(-1, 4, 0);
        CHECK.noState("by ALIKE the crown's takes none", () -> x.marry(6, 3, 0));
        x.decree(-1, 4, 1);
        CHECK.due("by ALIKE the crown's takes it", 1, x.marry(6, 3, 0));
        CHECK.due("the crown's court", -1, x.ofMarriage(1, 4));
        x.recognise(0, false);
        CHECK.due("of one that is not recognised", 2, x.marry(1, 4, 0));
        CHECK.due("the crown's court", -1, x.ofMarriage(2, 4));
        x.recognise(0, true);
        CHECK.due("as it was at the call", -1, x.ofMarriage(2, 4));
    }

    private static void divorcesByBoth() {
        Milletcourt x = grown();
        x.marry(0, 3, 0);
        CHECK.due("he alone", false, x.divorce(0, true));
        CHECK.due("he again", false, x.divorce(0, true));
        x.pass(2000);
        CHECK.due("and she", true, x.divorce(0, false));
        CHECK.due("divorced", Milletcourt.DIVORCED, x.ofMarriage(0, 0));
        x.marry(0, 3, 0);
        CHECK.due("she alone", false, x.divorce(1, false));
        CHECK.due("she again", false, x.divorce(1, false));
        CHECK.due("it lasts", Milletcourt.LASTS, x.ofMarriage(1, 0));
        CHECK.due("and he", true, x.divorce(1, true));
    }

    private static void divorcesByHusband() {
        Milletcourt x = grown();
        x.decree(0, 1, 0);
        x.marry(0, 3, 0);
        CHECK.due("she asks", false, x.divorce(0, false));
        CHECK.due("it lasts", Milletcourt.LASTS, x.ofMarriage(0, 0));
        CHECK.due("he asks", true, x.divorce(0, true));
        x.decree(0, 1, 3);
        x.marry(0, 3, 0);
        CHECK.due("he asks by NEVER", false, x.divorce(1, true));
        x.decree(0, 1, 0);
        CHECK.due("she asks by HUSBAND", false, x.divorce(1, false));
    }

    private static void divorcesByEither() {
        Milletcourt x = grown();
        x.decree(0, 1, 1);
        x.marry(0, 3, 0);
        CHECK.due("she asks", true, x.divorce(0, false));
        x.marry(0, 3, 0);
        CHECK.due("he asks", true, x.divorce(1, true));
    }

    private static void neverDivorced() {
        Milletcourt x = grown();
        x.decree(0, 1, 3);
        x.marry(0, 3, 5);
        CHECK.due("he asks", false, x.divorce(0, true));
        CHECK.due("she asks", false, x.divorce(0, false));
        CHECK.due("it lasts", Milletcourt.LASTS, x.ofMarriage(0, 0));
        x.decree(0, 1, 2);
        CHECK.due("what was asked by NEVER is kept", true, x.divorce(0, false));
    }

    private static void lawOfTheDay() {
        Milletcourt x = grown();
        x.decree(0, 1, 3);
        x.decree(1, 1, 1);
        x.marry(0, 7, 0);
        CHECK.due("by the husband's law", false, x.divorce(0, false));
        x.rule(1, 1);
        CHECK.due("by the wife's law", true, x.divorce(0, false));
        x.marry(0, 7, 0);
        x.rule(1, 3);
        CHECK.due("by the crown's law, of both", false, x.divorce(1, true));
        x.rule(1, 0);
        Check.take(x, 0, 1, 6, 7);
        CHECK.due("by the new faith's law", true, x.divorce(1, false));
    }

    private static void dowersAtDivorce() {
        Milletcourt x = grown();
        x.decree(0, 1, 1);
        x.goods(0, 1000);
        x.goods(3, 50);
        x.marry(0, 3, 300);
        x.divorce(0, false);
        CHECK.due("the husband pays", 700, x.ofPerson(0, 0));
        CHECK.due("the wife has", 350, x.ofPerson(3, 0));
        CHECK.due("nothing is owed", 0, x.ofMarriage(0, 3));
        x.marry(0, 4, 701);
        CHECK.due("it is owed", 701, x.ofMarriage(1, 3));
        x.divorce(1, true);
        CHECK.due("as far as he has", 0, x.ofPerson(0, 0));
        CHECK.due("the other wife has", 700, x.ofPerson(4, 0));
        CHECK.due("the rest is not owed", 0, x.ofMarriage(1, 3));
        CHECK.due("the treasury", 0, x.treasury());
    }
}

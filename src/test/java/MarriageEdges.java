/** The edges of marriages, by the words of the document: promises 12, 13 and 24. */
final class MarriageEdges {
    private static final int BY_HUSBAND = 0;
    private static final int BY_EITHER = 1;
    private static final int BY_BOTH = 2;
    private static final int BY_NEVER = 3;

    private final Check check;

    MarriageEdges(Check check) {
        this.check = check;
    }

    void all() {
        marriagesAreNumbered();
        thirtyMarriages();
        grownAndLiving();
        husbandsAsFirstPersons();
        wivesWithoutAMarriage();
        wivesByTheLaw();
        wivesByALoweredLaw();
        mixedMarriages();
        mixedByTheFaithOfTheDay();
        dowers();
        marryRefusesPersons();
        marryRefusesNumbers();
        marryRefusesTheLaw();
        marryRefusesInOrder();
        divorceAnswers();
        askingIsKept();
        divorceByHusband();
        divorceByEither();
        divorceByBoth();
        divorceByNever();
        courtOfTheDivorce();
        dowersAtDivorce();
        divorceRefuses();
        questionsAnswered();
        courtsThatWere();
        questionsRefused();
    }

    /** On the day 5000: men 0, 1 and women 2 to 6 of faith 0, man 7 and woman 8 of faith 1, all grown. */
    private static Milletcourt grown() {
        Milletcourt x = Check.empire(2);
        for (int i = 0; i < 7; i++) {
            x.person(i < 2, -1, -1, 0);
        }
        Check.man(x, 1);
        Check.woman(x, 1);
        Check.passDays(x, 5000);
        return x;
    }

    /** The marriage 0 of 0 and 2, with a dower of 300; the husband has some goods; by the law that is told. */
    private static Milletcourt married(int divorces) {
        Milletcourt x = grown();
        x.decree(0, 1, divorces);
        x.marry(0, 2, 300);
        x.goods(0, 1000);
        return x;
    }

    private static Milletcourt ended(int count) {
        Milletcourt x = grown();
        x.decree(0, 1, BY_EITHER);
        for (int i = 0; i < count; i++) {
            x.marry(0, 2, 0);
            x.divorce(i, true);
        }
        return x;
    }

    // ---- marrying

    private void marriagesAreNumbered() {
        check.says("Marriages are numbered from 0, at most 30;");
        check.promise(12, "Marries.");
        check.promise(12, "Returns the number of the marriage.");
        Milletcourt x = grown();
        x.decree(0, 1, BY_EITHER);
        for (int i = 0; i < 30; i++) {
            int next = i;
            check.noIndex("a marriage before", () -> x.ofMarriage(next, 0));
            check.due("the number", i, x.marry(0, 2, 0));
            check.due("it lasts", 0, x.ofMarriage(i, 0));
            x.divorce(i, true);
        }
    }

    private void thirtyMarriages() {
        check.promise(12, "Throws `IllegalStateException` if one does not live, or is a minor, it is not as the law has "
                + "it, or there are 30");
        check.due("the thirtieth one", 29, ended(29).marry(1, 3, 0));
        check.noState("one behind it", () -> ended(30), x -> x.marry(1, 3, 0));
        Milletcourt x = ended(30);
        x.pass(1);
        check.noState("those that are divorced count", () -> x.marry(0, 2, 0));
    }

    /** The man 9 and the woman 10 of the faith 0 are born on the day 5000; so many days go by. */
    private static Milletcourt bornLate(int days) {
        Milletcourt x = grown();
        Check.man(x, 0);
        Check.woman(x, 0);
        Check.passDays(x, days);
        return x;
    }

    private void grownAndLiving() {
        check.says("one is of a man and a woman, both living and no minors, and LASTS, is DIVORCED or WIDOWED.");
        check.noState("a man on his day of birth", () -> bornLate(0), x -> x.marry(9, 2, 0));
        check.noState("a woman on her day of birth", () -> bornLate(0), x -> x.marry(0, 10, 0));
        check.noState("a man on his 5000th day", () -> bornLate(4999), x -> x.marry(9, 2, 0));
        check.noState("a woman on her 5000th day", () -> bornLate(4999), x -> x.marry(0, 10, 0));
        check.due("both on the day behind", 0, bornLate(5000).marry(9, 10, 0));
        check.noState("a dead man", () -> withDead(0), x -> x.marry(0, 2, 0));
        check.noState("a dead woman", () -> withDead(2), x -> x.marry(0, 2, 0));
    }

    private static Milletcourt withDead(int dead) {
        Milletcourt x = grown();
        x.dies(dead);
        return x;
    }

    private void husbandsAsFirstPersons() {
        check.says("The law is that of the court of the matter, MARRIAGE, with the husband as the first person:");
        Milletcourt x = grown();
        x.decree(0, 4, 0);
        x.decree(0, 2, 4);
        check.noState("by ONE, the husband's law", () -> x.marry(0, 8, 0));
        check.due("by ONE, the other husband's law", 0, x.marry(7, 3, 0));
        x.rule(0, 1);
        check.due("by OTHER, the wife's law", 1, x.marry(0, 8, 0));
        check.noState("by OTHER, the other wife's law", () -> x.marry(7, 4, 0));
        x.rule(0, 3);
        check.noState("by CROWN, one wife", () -> x.marry(7, 4, 0));
        x.decree(-1, 2, 2);
        check.due("by CROWN, two wives", 2, x.marry(7, 4, 0));
        x.rule(0, 2);
        x.decree(-1, 2, 1);
        check.due("by ALIKE, two wives by the law of both", 3, x.marry(0, 5, 0));
        x.recognise(0, false);
        check.noState("not recognised, one wife by the crown's law", () -> x.marry(0, 6, 0));
        x.decree(-1, 2, 3);
        check.due("not recognised, three wives by the crown's law", 4, x.marry(0, 6, 0));
    }

    private void wivesWithoutAMarriage() {
        check.says("the wife has none that LASTS,");
        Milletcourt x = grown();
        x.decree(0, 2, 4);
        x.decree(0, 1, BY_EITHER);
        x.marry(0, 2, 0);
        check.noState("of another husband", () -> x.marry(1, 2, 0));
        check.noState("of the same husband", () -> x.marry(0, 2, 0));
        x.divorce(0, false);
        check.due("divorced on the same day", 1, x.marry(1, 2, 0));
        x.dies(1);
        check.due("widowed on the same day", 2, x.marry(0, 2, 0));
    }

    private void wivesByTheLaw() {
        check.says("the husband fewer than that law tells,");
        for (int most = 1; most < 5; most++) {
            Milletcourt x = grown();
            x.decree(0, 2, most);
            for (int wife = 0; wife < most; wife++) {
                check.due("wife of at most " + most, wife, x.marry(0, 2 + wife, 0));
            }
            int beyond = 2 + most;
            check.noState("one wife more than " + most, () -> x.marry(0, beyond, 0));
            check.due("of another husband", most, x.marry(1, beyond, 0));
        }
    }

    private void wivesByALoweredLaw() {
        check.says("the husband fewer than that law tells,");
        Milletcourt x = grown();
        x.decree(0, 2, 3);
        for (int wife = 2; wife < 5; wife++) {
            x.marry(0, wife, 0);
        }
        x.pass(1);
        x.decree(0, 2, 2);
        check.due("those that last stay", 3, x.ofPerson(0, 2));
        check.noState("three of two", () -> x.marry(0, 5, 0));
        x.dies(2);
        check.noState("two of two", () -> x.marry(0, 5, 0));
        x.dies(3);
        check.due("one of two", 3, x.marry(0, 5, 0));
    }

    private void mixedMarriages() {
        check.says("and, if their faiths are unlike, it takes mixed ones.");
        check.due("unlike ones by 1", 0, grown().marry(0, 8, 0));
        Milletcourt x = grown();
        x.decree(0, 4, 0);
        check.noState("unlike ones by 0", () -> x.marry(0, 8, 0));
        check.due("alike ones by 0", 0, x.marry(0, 2, 0));
        x.decree(0, 4, 1);
        x.decree(0, 2, 2);
        check.due("unlike ones by the last decree of the day", 1, x.marry(0, 8, 0));
    }

    private void mixedByTheFaithOfTheDay() {
        check.says("and, if their faiths are unlike, it takes mixed ones.");
        Milletcourt x = grown();
        x.decree(0, 4, 0);
        x.decree(1, 4, 0);
        x.turn(7, 0, 0, 1);
        x.pass(29);
        check.noState("the day ahead of being alike", () -> x.marry(7, 5, 0));
        x.pass(1);
        check.noState("unlike from that day on", () -> x.marry(7, 8, 0));
        check.due("alike from that day on", 0, x.marry(7, 5, 0));
    }

    private void dowers() {
        check.says("A marriage has a dower, which the husband owes the wife.");
        check.promise(12, "- `dower`: 0 to 1000000");
        int[] fine = {0, 1, 999999, 1000000};
        for (int dower : fine) {
            Milletcourt x = grown();
            x.marry(0, 2, dower);
            check.due("what is owed", dower, x.ofMarriage(0, 3));
            check.due("nothing is paid yet", 0, x.ofPerson(2, 0));
        }
        int[] none = {-1, 1000001, Integer.MIN_VALUE, Integer.MAX_VALUE};
        for (int dower : none) {
            check.noArgument("dower " + dower, () -> grown(), x -> x.marry(0, 2, dower));
        }
    }

    private void marryRefusesPersons() {
        check.promise(12, "Throws `IndexOutOfBoundsException` if there is no such person, of either");
        check.noIndex("without persons", () -> Check.empire(1), x -> x.marry(0, 0, 0));
        int[] none = {-1, 9, Integer.MIN_VALUE, Integer.MAX_VALUE};
        for (int p : none) {
            check.noIndex("husband " + p, () -> grown(), x -> x.marry(p, 2, 0));
            check.noIndex("wife " + p, () -> grown(), x -> x.marry(0, p, 0));
        }
    }

    private void marryRefusesNumbers() {
        check.promise(12, "- `husband`: a man");
        check.promise(12, "- `wife`: a woman");
        check.promise(12, "Throws `IllegalArgumentException` if husband is no man, wife is no woman, or dower is out of "
                + "range");
        check.noArgument("a woman as the husband", () -> grown(), x -> x.marry(2, 3, 0));
        check.noArgument("a man as the wife", () -> grown(), x -> x.marry(0, 1, 0));
        check.noArgument("both the other way", () -> grown(), x -> x.marry(2, 0, 0));
        check.noArgument("a man as both", () -> grown(), x -> x.marry(0, 0, 0));
        check.noArgument("a woman as both", () -> grown(), x -> x.marry(2, 2, 0));
    }

    private void marryRefusesTheLaw() {
        check.promise(12, "Throws `IllegalStateException` if one does not live, or is a minor, it is not as the law has "
                + "it, or there are 30");
        check.noState("a second wife", () -> married(BY_BOTH), x -> x.marry(0, 3, 5));
        check.noState("a second husband", () -> married(BY_BOTH), x -> x.marry(1, 2, 5));
        check.noState("a mixed one", () -> withoutMixedOnes(), x -> x.marry(0, 8, 5));
    }

    private static Milletcourt withoutMixedOnes() {
        Milletcourt x = grown();
        x.decree(0, 4, 0);
        return x;
    }

    private void marryRefusesInOrder() {
        check.says("if several exceptions apply, the one that its throws clause names first is thrown.");
        check.noIndex("wife, then husband", () -> grown(), x -> x.marry(2, 9, 0));
        check.noIndex("husband, then wife", () -> grown(), x -> x.marry(-1, 0, 0));
        check.noIndex("wife, then dower", () -> grown(), x -> x.marry(0, 9, -1));
        check.noIndex("wife, then a dead husband", () -> withDead(0), x -> x.marry(0, 9, 0));
        check.noIndex("husband, then room", () -> ended(30), x -> x.marry(9, 2, 0));
        check.noArgument("dower, then a dead husband", () -> withDead(0), x -> x.marry(0, 2, -1));
        check.noArgument("husband, then a dead wife", () -> withDead(2), x -> x.marry(3, 2, 0));
        check.noArgument("wife, then a minor", () -> bornLate(0), x -> x.marry(9, 1, 0));
        check.noArgument("dower, then the law", () -> married(BY_BOTH), x -> x.marry(0, 3, 1000001));
        check.noArgument("dower, then room", () -> ended(30), x -> x.marry(0, 2, -1));
    }

    // ---- divorces

    private void divorceAnswers() {
        check.promise(13, "Asks for a divorce.");
        check.promise(13, "- `byHusband`: whether the husband asks, otherwise the wife");
        check.promise(13, "Returns whether it is DIVORCED by that.");
        Milletcourt x = married(BY_HUSBAND);
        check.due("the wife", false, x.divorce(0, false));
        check.due("it lasts", Milletcourt.LASTS, x.ofMarriage(0, 0));
        check.due("the dower is owed yet", 300, x.ofMarriage(0, 3));
        check.due("the husband", true, x.divorce(0, true));
        check.due("divorced", Milletcourt.DIVORCED, x.ofMarriage(0, 0));
    }

    private void askingIsKept() {
        check.says("Husband or wife may ask for a divorce, which is kept, whatever the law is then;");
        int[] laws = {BY_NEVER, BY_HUSBAND, BY_BOTH};
        for (int law : laws) {
            Milletcourt x = married(law);
            check.due("she asks", false, x.divorce(0, false));
            x.pass(1);
            x.decree(0, 1, BY_BOTH);
            check.due("by BOTH, behind her asking by " + law, true, x.divorce(0, true));
        }
        Milletcourt y = married(BY_NEVER);
        check.due("he asks", false, y.divorce(0, true));
        y.decree(0, 1, BY_BOTH);
        check.due("by BOTH, behind his asking by NEVER", true, y.divorce(0, false));
        y.marry(0, 2, 0);
        check.due("not kept for another marriage", false, y.divorce(1, false));
        check.due("kept for that one", true, y.divorce(1, true));
    }

    private void divorceByHusband() {
        check.says("by HUSBAND it is DIVORCED if he asks,");
        Milletcourt x = married(BY_HUSBAND);
        check.due("she asks", false, x.divorce(0, false));
        check.due("she asks again", false, x.divorce(0, false));
        check.due("he asks", true, x.divorce(0, true));
        check.due("he alone", true, married(BY_HUSBAND).divorce(0, true));
        Milletcourt y = married(BY_NEVER);
        y.divorce(0, true);
        y.decree(0, 1, BY_HUSBAND);
        check.due("she asks, he only asked by another law", false, y.divorce(0, false));
        check.due("he asks by this one", true, y.divorce(0, true));
    }

    private void divorceByEither() {
        check.says("by EITHER if one asks,");
        check.due("she alone", true, married(BY_EITHER).divorce(0, false));
        check.due("he alone", true, married(BY_EITHER).divorce(0, true));
    }

    private void divorceByBoth() {
        check.says("by BOTH if one asks and the other one has asked, whenever that was;");
        Milletcourt x = married(BY_BOTH);
        check.due("he alone", false, x.divorce(0, true));
        check.due("he again", false, x.divorce(0, true));
        Check.passDays(x, 25000);
        check.due("and she, on the day 30000", true, x.divorce(0, false));
        Milletcourt y = married(BY_BOTH);
        check.due("she alone", false, y.divorce(0, false));
        check.due("she again", false, y.divorce(0, false));
        check.due("and he, the same day", true, y.divorce(0, true));
    }

    private void divorceByNever() {
        check.says("by NEVER not.");
        Milletcourt x = married(BY_NEVER);
        check.due("he", false, x.divorce(0, true));
        check.due("she", false, x.divorce(0, false));
        check.due("he again", false, x.divorce(0, true));
        check.due("it lasts", Milletcourt.LASTS, x.ofMarriage(0, 0));
        x.decree(0, 1, BY_BOTH);
        check.due("until the law is another one", true, x.divorce(0, true));
    }

    private void courtOfTheDivorce() {
        check.says("the law is that of the court of the matter, DIVORCE, with the husband as the first person:");
        Milletcourt x = grown();
        x.decree(0, 1, BY_NEVER);
        x.decree(1, 1, BY_EITHER);
        x.decree(-1, 1, BY_HUSBAND);
        x.decree(1, 2, 4);
        x.marry(0, 8, 0);
        x.marry(7, 2, 0);
        x.marry(7, 3, 0);
        check.due("by ONE, the husband's law", false, x.divorce(0, false));
        check.due("by ONE, the other husband's law", true, x.divorce(1, false));
        x.rule(1, 2);
        check.due("by ALIKE, the crown's law", false, x.divorce(2, false));
        x.rule(1, 1);
        check.due("by OTHER, the wife's law", false, x.divorce(2, true));
        check.due("by OTHER, the other wife's law", true, x.divorce(0, false));
        x.recognise(0, false);
        check.due("not recognised, the crown's law", true, x.divorce(2, true));
    }

    private void dowersAtDivorce() {
        check.says("Then the husband pays what is owed of the dower, as far as he has goods; the rest is not owed any "
                + "more.");
        int[] has = {0, 1, 299, 300, 301};
        for (int goods : has) {
            Milletcourt x = grown();
            x.decree(0, 1, BY_EITHER);
            x.marry(0, 2, 300);
            if (goods > 0) {
                x.goods(0, goods);
            }
            x.goods(2, 7);
            x.divorce(0, false);
            int paid = Math.min(goods, 300);
            check.due("the wife of one who has " + goods, 7 + paid, x.ofPerson(2, 0));
            check.due("he who had " + goods, goods - paid, x.ofPerson(0, 0));
            check.due("what is owed by one who had " + goods, 0, x.ofMarriage(0, 3));
            x.goods(0, 1000);
            x.dies(0);
            check.due("nothing more when he dies", 7 + paid, x.ofPerson(2, 0));
        }
        Milletcourt y = grown();
        y.decree(0, 1, BY_EITHER);
        y.marry(0, 2, 0);
        y.goods(0, 5);
        y.divorce(0, false);
        check.due("no dower", 5, y.ofPerson(0, 0));
    }

    private static Milletcourt divorced() {
        Milletcourt x = married(BY_EITHER);
        x.divorce(0, true);
        return x;
    }

    private static Milletcourt widowed(int dead) {
        Milletcourt x = married(BY_EITHER);
        x.dies(dead);
        return x;
    }

    private void divorceRefuses() {
        check.promise(13, "- `marriage`: the number of a marriage");
        check.promise(13, "Throws `IndexOutOfBoundsException` if there is no such marriage");
        check.noIndex("without marriages", () -> grown(), x -> x.divorce(0, true));
        int[] none = {-1, 1, Integer.MIN_VALUE, Integer.MAX_VALUE};
        for (int m : none) {
            check.noIndex("marriage " + m, () -> married(BY_EITHER), x -> x.divorce(m, true));
            check.noIndex("marriage " + m + ", by her", () -> married(BY_EITHER), x -> x.divorce(m, false));
        }
        check.promise(13, "Throws `IllegalStateException` if it does not LAST");
        check.noState("divorced", () -> divorced(), x -> x.divorce(0, true));
        check.noState("divorced, by her", () -> divorced(), x -> x.divorce(0, false));
        check.noState("a widow", () -> widowed(0), x -> x.divorce(0, false));
        check.noState("a widower", () -> widowed(2), x -> x.divorce(0, true));
    }

    // ---- what is asked

    private void questionsAnswered() {
        check.promise(24, "Tells of a marriage.");
        check.promise(24, "- `what`: 0 LASTS to WIDOWED, 1 the husband, 2 the wife, 3 what is owed of the dower, 4 whose "
                + "court it was, NONE for the crown");
        check.promise(24, "Returns as told.");
        int[][] due = {{0, 0, 2, 300, 0}, {1, 0, 2, 0, 0}, {2, 0, 2, 0, 0}, {2, 0, 2, 0, 0}};
        Milletcourt[] empires = {married(BY_EITHER), divorced(), widowed(0), widowed(2)};
        for (int i = 0; i < empires.length; i++) {
            for (int what = 0; what < 5; what++) {
                check.due("of " + i + ", " + what, due[i][what], empires[i].ofMarriage(0, what));
            }
        }
    }

    private void courtsThatWere() {
        check.promise(24, "- `what`: 0 LASTS to WIDOWED, 1 the husband, 2 the wife, 3 what is owed of the dower, 4 whose "
                + "court it was, NONE for the crown");
        Milletcourt x = grown();
        x.marry(7, 2, 0);
        x.rule(0, 1);
        x.marry(0, 8, 0);
        x.rule(0, 2);
        x.decree(0, 2, 4);
        x.decree(-1, 2, 4);
        x.marry(0, 3, 0);
        x.marry(7, 4, 0);
        x.rule(0, 3);
        x.marry(1, 5, 0);
        int[] due = {1, 1, 0, -1, -1};
        for (int m = 0; m < due.length; m++) {
            check.due("of marriage " + m, due[m], x.ofMarriage(m, 4));
        }
        x.pass(1);
        x.recognise(1, false);
        x.dies(7);
        check.due("as it was", 1, x.ofMarriage(0, 4));
    }

    private void questionsRefused() {
        check.promise(24, "- `marriage`: the number of a marriage");
        check.promise(24, "Throws `IndexOutOfBoundsException` if there is no such marriage");
        check.noIndex("without marriages", () -> grown(), x -> x.ofMarriage(0, 0));
        int[] none = {-1, 1, Integer.MIN_VALUE, Integer.MAX_VALUE};
        for (int m : none) {
            check.noIndex("marriage " + m, () -> married(BY_BOTH), x -> x.ofMarriage(m, 0));
        }
        check.promise(24, "Throws `IllegalArgumentException` if what is out of range");
        int[] noWhats = {-1, 5, Integer.MIN_VALUE, Integer.MAX_VALUE};
        for (int what : noWhats) {
            check.noArgument("what " + what, () -> married(BY_BOTH), x -> x.ofMarriage(0, what));
        }
        check.says("if several exceptions apply, the one that its throws clause names first is thrown.");
        check.noIndex("marriage, then what", () -> married(BY_BOTH), x -> x.ofMarriage(1, 5));
    }
}

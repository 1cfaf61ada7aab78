/** The edges of goods and estates, by the words of the document: promises 14, 15, 26 and 27. */
final class EstateEdges {
    private static final int EQUAL = 0;
    private static final int DOUBLE = 1;
    private static final int FIRST = 2;

    private final Check check;

    EstateEdges(Check check) {
        this.check = check;
    }

    void all() {
        goodsAtFirst();
        goodsThatAreBrought();
        goodsRefuses();
        diesAnswers();
        diesRefuses();
        allMarriagesAreWidowed();
        courtOfTheEstate();
        lawOfThatDay();
        dowersByTheirNumbers();
        dowersAsFarAsThereIs();
        dowersOfMarriagesThatLast();
        nothingOwedAnyMore();
        widowsPartOfWhatIsLeft();
        widowsPartFromNoneToAll();
        widowsPartRoundedDown();
        widowsAlike();
        widowersToo();
        childrenWhoLive();
        childrenOfEither();
        barredFromEstates();
        barredByTheFaithOfTheDay();
        barredButForDowers();
        sharesByEqual();
        sharesByDouble();
        sharesByFirst();
        missingByRounding();
        missingOfTheWidowsPart();
        nobodyToGetThePart();
        nobodyToGetTheRest();
        widowsWhoAreChildren();
        treasuryAndAll();
    }

    /** On the day 5000: men 0, 1 and women 2, 3, 4, 5 of faith 0, man 6 and woman 7 of faith 1; with four wives at most. */
    private static Milletcourt grown() {
        Milletcourt x = Check.empire(2);
        for (int i = 0; i < 6; i++) {
            x.person(i < 2, -1, -1, 0);
        }
        Check.man(x, 1);
        Check.woman(x, 1);
        Check.passDays(x, 5000);
        x.decree(0, 2, 4);
        return x;
    }

    /** The man 0 has so many goods and this law of shares, no widow, and children 8, 9, .. as told by letters m and w. */
    private static Milletcourt father(int shares, int goods, String children) {
        Milletcourt x = grown();
        x.decree(0, 0, shares);
        for (int i = 0; i < children.length(); i++) {
            x.person(children.charAt(i) == 'm', -1, 0, -1);
        }
        x.goods(0, goods);
        return x;
    }

    /** The man 0 has so many goods, this widow's part, and wives 2, 3, .. without dowers. */
    private static Milletcourt husband(int part, int goods, int wives) {
        Milletcourt x = grown();
        x.decree(0, 3, part);
        for (int i = 0; i < wives; i++) {
            x.marry(0, 2 + i, 0);
        }
        x.goods(0, goods);
        return x;
    }

    private static Milletcourt withDead(int dead) {
        Milletcourt x = grown();
        x.goods(0, 100);
        x.dies(dead);
        return x;
    }

    private void dueHave(String what, Milletcourt x, int first, long... due) {
        for (int i = 0; i < due.length; i++) {
            check.due(what + ", person " + (first + i), due[i], x.ofPerson(first + i, 0));
        }
    }

    // ---- goods

    private void goodsAtFirst() {
        check.says("A person has goods, in cents, 0 at first.");
        Milletcourt x = Check.empire(1);
        check.due("all, of nobody", 0, x.all());
        Check.man(x, 0);
        check.due("at first", 0, x.ofPerson(0, 0));
        x.goods(0, 5);
        x.person(true, -1, 0, -1);
        check.due("a child of one who has some", 0, x.ofPerson(1, 0));
        check.due("all", 5, x.all());
    }

    private void goodsThatAreBrought() {
        check.promise(14, "Brings goods to a person.");
        check.promise(14, "Returns what the person has then.");
        check.promise(14, "- `cents`: 1 to 1000000");
        Milletcourt x = grown();
        check.due("the least", 1, x.goods(0, 1));
        check.due("the most", 1000001, x.goods(0, 1000000));
        check.due("another one's", 1000000, x.goods(1, 1000000));
        long due = 1000001;
        for (int i = 0; i < 400; i++) {
            due += 1000000;
            check.due("again and again", due, x.goods(0, 1000000));
        }
    }

    private void goodsRefuses() {
        check.promise(14, "- `person`: the number of a person");
        check.promise(14, "Throws `IndexOutOfBoundsException` if there is no such person");
        check.noIndex("without persons", () -> Check.empire(1), x -> x.goods(0, 1));
        int[] none = {-1, 8, Integer.MIN_VALUE, Integer.MAX_VALUE};
        for (int p : none) {
            check.noIndex("person " + p, () -> grown(), x -> x.goods(p, 1));
        }
        check.promise(14, "Throws `IllegalArgumentException` if cents is out of range");
        int[] noCents = {0, -1, 1000001, Integer.MIN_VALUE, Integer.MAX_VALUE};
        for (int cents : noCents) {
            check.noArgument("cents " + cents, () -> grown(), x -> x.goods(0, cents));
        }
        check.promise(14, "Throws `IllegalStateException` if the person does not live");
        check.noState("the dead", () -> withDead(0), x -> x.goods(0, 1));
        check.says("if several exceptions apply, the one that its throws clause names first is thrown.");
        check.noIndex("person, then cents", () -> grown(), x -> x.goods(8, 0));
        check.noArgument("cents, then the dead", () -> withDead(0), x -> x.goods(0, 1000001));
    }

    // ---- deaths

    private void diesAnswers() {
        check.promise(15, "Lets a person die, today.");
        check.promise(15, "Returns what goes to the crown.");
        check.due("nothing, of nothing", 0, grown().dies(0));
        check.due("all, without anybody", 100, father(EQUAL, 100, "").dies(0));
        check.due("nothing, with a child", 0, father(EQUAL, 100, "m").dies(0));
        check.due("the rest, with a widow", 75, husband(25, 100, 1).dies(0));
        Milletcourt x = father(EQUAL, 100, "");
        x.dies(0);
        check.due("what went to it before does not count", 0, x.dies(1));
        check.due("a minor dies, too", 0, father(EQUAL, 100, "m").dies(8));
    }

    private void diesRefuses() {
        check.promise(15, "- `person`: the number of a person");
        check.promise(15, "Throws `IndexOutOfBoundsException` if there is no such person");
        check.noIndex("without persons", () -> Check.empire(1), x -> x.dies(0));
        int[] none = {-1, 8, Integer.MIN_VALUE, Integer.MAX_VALUE};
        for (int p : none) {
            check.noIndex("person " + p, () -> grown(), x -> x.dies(p));
        }
        check.promise(15, "Throws `IllegalStateException` if the person does not live");
        check.noState("the dead", () -> withDead(0), x -> x.dies(0));
        Milletcourt x = withDead(0);
        x.pass(1);
        check.noState("the dead, a day on", () -> x.dies(0));
    }

    private void allMarriagesAreWidowed() {
        check.says("When a person dies, all marriages of it that LAST are WIDOWED;");
        Milletcourt x = husband(25, 100, 4);
        x.marry(1, 5 + 2, 0);
        x.decree(0, 1, 1);
        x.divorce(0, true);
        x.dies(0);
        int[] due = {1, 2, 2, 2, 0};
        for (int m = 0; m < due.length; m++) {
            check.due("marriage " + m, due[m], x.ofMarriage(m, 0));
        }
        x.dies(3);
        check.due("widowed as before", 2, x.ofMarriage(1, 0));
        x.dies(2);
        check.due("divorced as before", 1, x.ofMarriage(0, 0));
    }

    private void courtOfTheEstate() {
        check.says("the law is that of the court of the matter, ESTATE, with the dead as both persons.");
        for (int rule = 0; rule < 4; rule++) {
            Milletcourt x = husband(10, 100, 1);
            x.decree(1, 3, 20);
            x.decree(-1, 3, 30);
            x.rule(2, rule);
            check.due("by rule " + rule, rule == 3 ? 70 : 90, x.dies(0));
        }
        Milletcourt y = husband(10, 100, 1);
        y.decree(-1, 3, 30);
        y.recognise(0, false);
        check.due("not recognised", 70, y.dies(0));
        Milletcourt z = grown();
        z.decree(1, 3, 20);
        z.marry(0, 7, 0);
        z.goods(7, 100);
        check.due("by the dead wife's law", 80, z.dies(7));
    }

    private void lawOfThatDay() {
        check.says("the law is that of the court of the matter, ESTATE, with the dead as both persons.");
        Milletcourt x = husband(10, 100, 1);
        x.pass(1);
        x.decree(0, 3, 40);
        x.decree(0, 3, 50);
        check.due("the last decree of that day", 50, x.dies(0));
        Milletcourt y = husband(10, 100, 1);
        y.decree(1, 3, 60);
        y.turn(0, 1, 6, 7);
        y.pass(29);
        Milletcourt z = husband(10, 100, 1);
        z.decree(1, 3, 60);
        z.turn(0, 1, 6, 7);
        z.pass(30);
        check.due("the day ahead of another faith", 90, y.dies(0));
        check.due("on its first day", 40, z.dies(0));
    }

    // ---- dowers

    private void dowersByTheirNumbers() {
        check.says("Of the goods the dowers that a dead husband owes by these marriages are paid, by their numbers, as far "
                + "as there is something;");
        Milletcourt x = grown();
        x.decree(0, 3, 0);
        x.marry(0, 4, 60);
        x.marry(0, 3, 50);
        x.marry(0, 2, 40);
        x.goods(0, 100);
        check.due("nothing is left", 0, x.dies(0));
        dueHave("the lower marriage first", x, 2, 0, 40, 60);
    }

    private void dowersAsFarAsThereIs() {
        check.says("Of the goods the dowers that a dead husband owes by these marriages are paid, by their numbers, as far "
                + "as there is something;");
        int[][] due = {{0, 0, 0, 0}, {1, 1, 0, 0}, {59, 59, 0, 0}, {60, 60, 0, 0}, {61, 60, 1, 0}, {100, 60, 40, 0},
            {101, 60, 40, 1}};
        for (int[] row : due) {
            Milletcourt x = grown();
            x.decree(0, 3, 0);
            x.marry(0, 3, 60);
            x.marry(0, 2, 40);
            if (row[0] > 0) {
                x.goods(0, row[0]);
            }
            check.due("to the crown, of " + row[0], row[3], x.dies(0));
            check.due("the first dower, of " + row[0], row[1], x.ofPerson(3, 0));
            check.due("the second dower, of " + row[0], row[2], x.ofPerson(2, 0));
        }
    }

    private void dowersOfMarriagesThatLast() {
        check.says("Of the goods the dowers that a dead husband owes by these marriages are paid, by their numbers, as far "
                + "as there is something;");
        Milletcourt x = grown();
        x.decree(0, 1, 1);
        x.decree(0, 3, 0);
        x.marry(0, 2, 60);
        x.divorce(0, true);
        x.marry(0, 3, 60);
        x.dies(3);
        x.goods(0, 100);
        check.due("neither a divorced one's nor a dead one's", 100, x.dies(0));
        Milletcourt y = grown();
        y.marry(0, 2, 60);
        y.goods(2, 100);
        check.due("a dead wife owes none", 75, y.dies(2));
        check.due("the widower has the part alone", 25, y.ofPerson(0, 0));
    }

    private void nothingOwedAnyMore() {
        check.says("of the dowers of these marriages nothing is owed any more then, whoever died.");
        for (int dead = 0; dead < 3; dead += 2) {
            Milletcourt x = grown();
            x.marry(0, 2, 60);
            x.marry(0, 3, 70);
            x.dies(dead);
            check.due("of the first, when dead is " + dead, 0, x.ofMarriage(0, 3));
            check.due("of the second, when dead is " + dead, dead == 0 ? 0 : 70, x.ofMarriage(1, 3));
        }
    }

    // ---- the widow's part

    private void widowsPartOfWhatIsLeft() {
        check.says("Of what is left then the widow's part goes to those who were married to the dead so, alike, widowers "
                + "too;");
        Milletcourt x = grown();
        x.decree(0, 3, 50);
        x.marry(0, 2, 60);
        x.goods(0, 100);
        check.due("half of what the dower leaves", 20, x.dies(0));
        check.due("the dower and the other half", 80, x.ofPerson(2, 0));
        Milletcourt y = husband(50, 100, 0);
        y.decree(0, 1, 1);
        y.marry(0, 2, 0);
        y.divorce(0, true);
        check.due("the divorced one has none", 100, y.dies(0));
        check.due("she has nothing", 0, y.ofPerson(2, 0));
    }

    private void widowsPartFromNoneToAll() {
        check.says("3 the widow's part in hundredths, 0 to 100;");
        int[] parts = {0, 1, 99, 100};
        for (int part : parts) {
            Milletcourt x = husband(part, 100, 1);
            check.due("the crown, by the part " + part, 100 - part, x.dies(0));
            check.due("the widow, by the part " + part, part, x.ofPerson(2, 0));
        }
    }

    private void widowsPartRoundedDown() {
        check.says("All quotients are rounded down.");
        int[][] due = {{25, 3, 0}, {25, 4, 1}, {25, 7, 1}, {1, 99, 0}, {1, 100, 1}, {1, 199, 1}, {99, 1, 0}, {99, 100, 99},
            {99, 101, 99}, {100, 1, 1}};
        for (int[] row : due) {
            Milletcourt x = husband(row[0], row[1], 1);
            check.due("the crown, of " + row[1] + " by " + row[0], row[1] - row[2], x.dies(0));
            check.due("the widow, of " + row[1] + " by " + row[0], row[2], x.ofPerson(2, 0));
        }
    }

    private void widowsAlike() {
        check.says("Of what is left then the widow's part goes to those who were married to the dead so, alike, widowers "
                + "too;");
        for (int wives = 1; wives < 5; wives++) {
            Milletcourt x = husband(60, 20, wives);
            check.due("the rest of " + wives, 8, x.dies(0));
            for (int i = 0; i < wives; i++) {
                check.due("widow " + i + " of " + wives, 12 / wives, x.ofPerson(2 + i, 0));
            }
        }
    }

    private void widowersToo() {
        check.says("Of what is left then the widow's part goes to those who were married to the dead so, alike, widowers "
                + "too;");
        Milletcourt x = husband(60, 20, 2);
        x.goods(3, 10);
        check.due("the rest of the wife's", 4, x.dies(3));
        check.due("the widower", 26, x.ofPerson(0, 0));
        check.due("the other wife", 0, x.ofPerson(2, 0));
    }

    // ---- children

    private void childrenWhoLive() {
        check.says("the rest goes to the children who live, of whom the dead is mother or father.");
        Milletcourt x = father(EQUAL, 90, "mww");
        x.dies(9);
        check.due("to the crown", 0, x.dies(0));
        dueHave("those who live", x, 8, 45, 0, 45);
        Milletcourt y = father(EQUAL, 90, "m");
        y.person(true, -1, 8, -1);
        y.dies(8);
        check.due("no child lives, a child's child does", 90, y.dies(0));
        Milletcourt z = father(EQUAL, 90, "");
        z.dies(0);
        z.person(true, -1, 0, -1);
        check.due("born behind the death", 0, z.ofPerson(8, 0));
    }

    private void childrenOfEither() {
        check.says("the rest goes to the children who live, of whom the dead is mother or father.");
        Milletcourt x = grown();
        x.person(true, 2, 0, -1);
        x.person(true, 2, 1, -1);
        x.person(true, 3, 0, -1);
        x.person(true, 2, -1, -1);
        x.goods(2, 90);
        check.due("to the crown, of hers", 0, x.dies(2));
        dueHave("of a mother", x, 8, 30, 30, 0, 30);
        x.goods(0, 10);
        check.due("to the crown, of his", 0, x.dies(0));
        dueHave("of a father", x, 8, 35, 30, 5, 30);
    }

    private void barredFromEstates() {
        check.says("Who is barred gets nothing, but a dower: those of another faith than the dead.");
        for (int bars = 0; bars < 2; bars++) {
            Milletcourt x = grown();
            x.decree(0, 5, bars);
            x.person(true, 2, 6, -1);
            x.person(true, 2, 0, -1);
            x.goods(2, 60);
            check.due("to the crown, by " + bars, 0, x.dies(2));
            dueHave("by " + bars, x, 8, bars == 1 ? 0 : 30, bars == 1 ? 60 : 30);
        }
        Milletcourt y = grown();
        y.decree(1, 5, 1);
        y.person(true, 2, 6, -1);
        y.goods(2, 60);
        check.due("another law bars nobody", 0, y.dies(2));
    }

    private void barredByTheFaithOfTheDay() {
        check.says("Who is barred gets nothing, but a dower: those of another faith than the dead.");
        for (int days = 29; days < 31; days++) {
            Milletcourt x = father(EQUAL, 60, "m");
            x.decree(0, 5, 1);
            Check.passDays(x, 5000);
            x.turn(8, 1, 6, 7);
            x.pass(days);
            check.due("a child who turned so many days ahead: " + days, days == 29 ? 0 : 60, x.dies(0));
        }
    }

    private void barredButForDowers() {
        check.says("Who is barred gets nothing, but a dower: those of another faith than the dead.");
        Milletcourt x = grown();
        x.decree(0, 5, 1);
        x.decree(0, 3, 50);
        x.marry(0, 7, 30);
        x.marry(0, 2, 0);
        x.goods(0, 100);
        check.due("to the crown", 35, x.dies(0));
        check.due("a barred widow has her dower", 30, x.ofPerson(7, 0));
        check.due("the other one has the whole part", 35, x.ofPerson(2, 0));
    }

    private void sharesByEqual() {
        check.says("By EQUAL children get alike, by DOUBLE a daughter one share, a son two of these, a share being the rest "
                + "divided by how many shares these are, together, rounded down;");
        Milletcourt x = father(EQUAL, 100, "wmmw");
        x.dies(0);
        dueHave("sons and daughters", x, 8, 25, 25, 25, 25);
        Milletcourt y = father(EQUAL, 100, "w");
        y.dies(0);
        dueHave("the only one", y, 8, 100);
    }

    private void sharesByDouble() {
        check.says("By EQUAL children get alike, by DOUBLE a daughter one share, a son two of these, a share being the rest "
                + "divided by how many shares these are, together, rounded down;");
        Milletcourt x = father(DOUBLE, 60, "wmmw");
        x.dies(0);
        dueHave("sons and daughters", x, 8, 10, 20, 20, 10);
        Milletcourt y = father(DOUBLE, 60, "mm");
        y.dies(0);
        dueHave("sons alone", y, 8, 30, 30);
        Milletcourt z = father(DOUBLE, 61, "m");
        z.dies(0);
        dueHave("the only son", z, 8, 61);
    }

    private void sharesByFirst() {
        check.says("by FIRST the one with the lowest number gets all.");
        Milletcourt x = father(FIRST, 61, "wmm");
        x.dies(0);
        dueHave("the lowest number", x, 8, 61, 0, 0);
        Milletcourt y = father(FIRST, 61, "wmm");
        y.dies(8);
        y.dies(0);
        dueHave("the lowest who lives", y, 8, 0, 61, 0);
        Milletcourt z = grown();
        z.decree(0, 0, FIRST);
        z.decree(0, 5, 1);
        z.person(true, 2, 6, -1);
        z.person(true, 2, 0, -1);
        z.goods(2, 61);
        check.due("to the crown", 0, z.dies(2));
        dueHave("the lowest who is not barred", z, 8, 0, 61);
    }

    private void missingByRounding() {
        check.says("What is missing of either by rounding goes to the one of these with the lowest number.");
        int[][] equal = {{1, 1, 0, 0}, {2, 2, 0, 0}, {3, 1, 1, 1}, {4, 2, 1, 1}, {5, 3, 1, 1}, {6, 2, 2, 2}};
        for (int[] row : equal) {
            Milletcourt x = father(EQUAL, row[0], "mwm");
            check.due("to the crown, of " + row[0], 0, x.dies(0));
            dueHave("by EQUAL, of " + row[0], x, 8, row[1], row[2], row[3]);
        }
        int[][] twofold = {{4, 4, 0, 0}, {5, 1, 2, 2}, {6, 2, 2, 2}, {9, 5, 2, 2}, {10, 2, 4, 4}};
        for (int[] row : twofold) {
            Milletcourt x = father(DOUBLE, row[0], "wmm");
            check.due("to the crown by DOUBLE, of " + row[0], 0, x.dies(0));
            dueHave("by DOUBLE, of " + row[0], x, 8, row[1], row[2], row[3]);
        }
    }

    private void missingOfTheWidowsPart() {
        check.says("What is missing of either by rounding goes to the one of these with the lowest number.");
        int[][] due = {{0, 0, 0, 0}, {1, 1, 0, 0}, {2, 2, 0, 0}, {3, 1, 1, 1}, {5, 3, 1, 1}};
        for (int[] row : due) {
            Milletcourt x = grown();
            x.decree(0, 3, 50);
            x.marry(0, 4, 0);
            x.marry(0, 3, 0);
            x.marry(0, 2, 0);
            x.goods(0, 2 * row[0] + 1);
            check.due("the rest of the part " + row[0], row[0] + 1, x.dies(0));
            dueHave("the lowest person, not the lowest marriage, of " + row[0], x, 2, row[1], row[2], row[3]);
        }
        Milletcourt z = grown();
        z.decree(0, 3, 50);
        z.marry(0, 3, 0);
        z.marry(0, 2, 0);
        z.goods(0, 10);
        z.dies(0);
        dueHave("of two, the lower person", z, 2, 3, 2);
        Milletcourt y = husband(50, 14, 3);
        y.person(true, -1, 0, -1);
        y.person(true, -1, 0, -1);
        check.due("to the crown", 0, y.dies(0));
        dueHave("of both parts, each its own, widows", y, 2, 3, 2, 2);
        dueHave("of both parts, each its own, children", y, 8, 4, 3);
    }

    // ---- nobody

    private void nobodyToGetThePart() {
        check.says("The widow's part stays with the rest, if there is nobody to get it;");
        Milletcourt x = father(EQUAL, 100, "m");
        x.dies(0);
        check.due("without a widow, to the child", 100, x.ofPerson(8, 0));
        Milletcourt y = father(EQUAL, 100, "m");
        y.decree(0, 5, 1);
        y.marry(0, 7, 0);
        y.dies(0);
        check.due("with a barred widow, to the child", 100, y.ofPerson(8, 0));
        check.due("the barred widow", 0, y.ofPerson(7, 0));
        check.due("without both, to the crown", 100, father(EQUAL, 100, "").dies(0));
        Milletcourt z = father(EQUAL, 100, "m");
        z.decree(0, 3, 100);
        z.dies(0);
        check.due("a part of all", 100, z.ofPerson(8, 0));
    }

    private void nobodyToGetTheRest() {
        check.says("the rest goes to the crown, if there is nobody to get it.");
        int[] laws = {EQUAL, DOUBLE, FIRST};
        for (int law : laws) {
            check.due("without children, by " + law, 61, father(law, 61, "").dies(0));
            Milletcourt x = father(law, 61, "mw");
            x.dies(8);
            x.dies(9);
            check.due("all children dead, by " + law, 61, x.dies(0));
            Milletcourt y = grown();
            y.decree(0, 0, law);
            y.decree(0, 5, 1);
            y.person(true, 2, 6, -1);
            y.goods(2, 61);
            check.due("all children barred, by " + law, 61, y.dies(2));
            check.due("the treasury, by " + law, 61, y.treasury());
        }
    }

    private void widowsWhoAreChildren() {
        check.says("the rest goes to the children who live, of whom the dead is mother or father.");
        Milletcourt x = father(EQUAL, 100, "ww");
        Check.passDays(x, 5000);
        x.marry(0, 9, 0);
        check.due("to the crown", 0, x.dies(0));
        dueHave("the part and a share", x, 8, 38, 25 + 37);
    }

    // ---- all

    private void treasuryAndAll() {
        check.promise(26, "Returns what the crown has got.");
        check.promise(27, "Returns what all persons and the crown have, together.");
        Milletcourt x = husband(25, 101, 1);
        check.due("the treasury at first", 0, x.treasury());
        check.due("all at first", 101, x.all());
        x.goods(1, 7);
        x.dies(0);
        check.due("the treasury", 76, x.treasury());
        check.due("all", 108, x.all());
        x.dies(1);
        check.due("the treasury then", 83, x.treasury());
        x.dies(2);
        check.due("the treasury has it all", 108, x.treasury());
        check.due("all then", 108, x.all());
    }
}

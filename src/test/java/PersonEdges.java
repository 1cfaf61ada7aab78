/** The edges of persons and faiths, by the words of the document: promises 8 to 11. */
final class PersonEdges {
    private static final String UNDOING = "If a person who turns takes the faith that it had right ahead of the one of "
            + "now, less than 100 days behind taking the one of now, in whatever way it had taken these, both are undone:";

    private final Check check;

    PersonEdges(Check check) {
        this.check = check;
    }

    void all() {
        personsAreNumbered();
        fortyPersons();
        menAndWomen();
        faithsAtBirth();
        faithOfTheFathersDay();
        parentsOfAnyAge();
        personRefusesNumbers();
        personRefusesParents();
        personRefusesFaiths();
        personRefusesInOrder();
        minorsWhoTurn();
        minorsAsWitnesses();
        turnAnswers();
        takenAfterThirtyDays();
        takenAtTheEndOfAPass();
        recantedInTime();
        deadInTime();
        dueOnOneDay();
        turningAgain();
        turnRefusesNumbers();
        turnRefusesTheSame();
        turnRefusesPersons();
        turnRefusesWitnesses();
        turnRefusesInOrder();
        recantAnswers();
        recantRefuses();
        childrenAtTheirLastDayAsMinors();
        childrenWhoLive();
        childrenOfOneParent();
        childrenOfChildren();
        childrenBelowOthers();
        childrenOfOthers();
        childrenRightBehind();
        childrenWhoHaveIt();
        undoneWithinTheDays();
        undoneRightAhead();
        undoneFromBirth();
        undoneInWhateverWay();
        undoneWhatBothFollowed();
        undoneByTurningAlone();
        undoneOnAllDays();
        undoneTwice();
        undoneWithChildren();
        faithDays();
        faithRefuses();
    }

    /** On the day 5000: men 0, 1 and woman 2 of faith 0, men 3, 4 of faith 1, men 5, 6 of faith 2, all grown. */
    private static Milletcourt grown() {
        Milletcourt x = Check.empire(3);
        Check.man(x, 0);
        Check.man(x, 0);
        Check.woman(x, 0);
        for (int i = 0; i < 4; i++) {
            Check.man(x, 1 + i / 2);
        }
        Check.passDays(x, 5000);
        return x;
    }

    /** Behind that, 0 has the faith 1; 30 days go by. */
    private static void takesOne(Milletcourt x, int person) {
        Check.take(x, person, 1, 3, 4);
    }

    private static void takesTwo(Milletcourt x, int person) {
        Check.take(x, person, 2, 5, 6);
    }

    private static void takesZero(Milletcourt x, int person) {
        Check.take(x, person, 0, 1, 2);
    }

    /** The man 0 is turning to the faith 1; there is a minor 7 of the faith 1, too. */
    private static Milletcourt turning() {
        Milletcourt x = grown();
        Check.man(x, 1);
        x.turn(0, 1, 3, 4);
        x.pass(3);
        return x;
    }

    private static Milletcourt persons(int count) {
        Milletcourt x = Check.empire(1);
        for (int i = 0; i < count; i++) {
            x.person(i % 2 == 0, -1, -1, 0);
        }
        return x;
    }

    // ---- births

    private void personsAreNumbered() {
        check.says("Persons are numbered from 0, at most 40;");
        check.promise(8, "Takes a person up, who is born today.");
        check.promise(8, "Returns the number.");
        Milletcourt x = Check.empire(1);
        for (int i = 0; i < 40; i++) {
            int next = i;
            check.noIndex("a person before", () -> x.ofPerson(next, 1));
            check.due("the number", i, Check.man(x, 0));
            check.due("it lives", 1, x.ofPerson(i, 1));
        }
    }

    private void fortyPersons() {
        check.promise(8, "Throws `IllegalStateException` if there are 40");
        check.due("the fortieth one", 39, persons(39).person(true, 1, 0, -1));
        check.noState("one behind it", () -> persons(40), x -> x.person(true, -1, -1, 0));
        check.noState("a child behind it", () -> persons(40), x -> x.person(true, 1, 0, -1));
        Milletcourt x = persons(40);
        x.dies(39);
        check.noState("the dead count", () -> x.person(true, -1, -1, 0));
    }

    private void menAndWomen() {
        check.says("a person is a man or a woman, is born on the day on which the number is given, and may die.");
        check.promise(8, "- `isMan`: whether it is a man");
        check.due("a man as a father", 2, persons(2).person(true, -1, 0, -1));
        check.due("a woman as a mother", 2, persons(2).person(true, 1, -1, -1));
        Milletcourt x = persons(0);
        x.pass(9);
        Check.man(x, 0);
        check.due("born that day", 0, x.faith(0, 9));
        check.noArgument("not the day ahead", () -> x.faith(0, 8));
        x.dies(0);
        check.due("dead on the day of birth", 0, x.ofPerson(0, 1));
    }

    private void faithsAtBirth() {
        check.says("Who has a father has the father's faith of that day, who has none, but a mother, hers");
        Milletcourt x = Check.empire(2);
        Check.man(x, 0);
        Check.woman(x, 1);
        check.due("of both", 0, x.faith(x.person(true, 1, 0, -1), 0));
        check.due("of a father alone", 0, x.faith(x.person(true, -1, 0, -1), 0));
        check.due("of a mother alone", 1, x.faith(x.person(true, 1, -1, -1), 0));
        check.says("who has neither has a faith that is told.");
        check.due("the lowest community", 0, x.faith(x.person(true, -1, -1, 0), 0));
        check.due("the highest one", 1, x.faith(x.person(true, -1, -1, 1), 0));
    }

    private void faithOfTheFathersDay() {
        check.says("Who has a father has the father's faith of that day, who has none, but a mother, hers");
        Milletcourt x = grown();
        x.turn(0, 1, 3, 4);
        x.turn(2, 2, 5, 6);
        x.pass(29);
        check.due("the day ahead", 0, x.faith(x.person(true, 2, 0, -1), 5029));
        check.due("the mother's, the day ahead", 0, x.faith(x.person(true, 2, -1, -1), 5029));
        x.pass(1);
        check.due("that day", 1, x.faith(x.person(true, 2, 0, -1), 5030));
        check.due("the mother's, that day", 2, x.faith(x.person(true, 2, -1, -1), 5030));
    }

    private void parentsOfAnyAge() {
        check.says("(they need not live, nor be grown);");
        Milletcourt x = Check.empire(2);
        Check.man(x, 0);
        Check.woman(x, 1);
        check.due("a father who is born today", 0, x.faith(x.person(false, -1, 0, -1), 0));
        check.due("a mother who is born today", 1, x.faith(x.person(false, 1, -1, -1), 0));
        x.dies(0);
        x.dies(1);
        x.pass(1);
        check.due("a dead father", 0, x.faith(x.person(true, 1, 0, -1), 1));
        check.due("a dead mother", 1, x.faith(x.person(true, 1, -1, -1), 1));
    }

    private void personRefusesNumbers() {
        check.promise(8, "Throws `IndexOutOfBoundsException` if there is no such person, of either, but for NONE, or no "
                + "such community");
        check.noIndex("a mother, without persons", () -> Check.empire(1), x -> x.person(true, 0, -1, -1));
        check.noIndex("a father, without persons", () -> Check.empire(1), x -> x.person(true, -1, 0, -1));
        check.noIndex("a faith, without communities", () -> new Milletcourt(), x -> x.person(true, -1, -1, 0));
        int[] noPersons = {-2, 2, Integer.MIN_VALUE, Integer.MAX_VALUE};
        for (int p : noPersons) {
            check.noIndex("mother " + p, () -> persons(2), x -> x.person(true, p, 0, -1));
            check.noIndex("father " + p, () -> persons(2), x -> x.person(true, 1, p, -1));
        }
        int[] noCommunities = {-2, 1, Integer.MIN_VALUE, Integer.MAX_VALUE};
        for (int c : noCommunities) {
            check.noIndex("faith " + c, () -> persons(2), x -> x.person(true, -1, -1, c));
        }
    }

    private void personRefusesParents() {
        check.promise(8, "- `mother`: a woman, or NONE");
        check.promise(8, "- `father`: a man, or NONE");
        check.promise(8, "Throws `IllegalArgumentException` if mother is no woman, father is no man, or faith is NONE, or "
                + "is not, as it has to be");
        check.noArgument("a man as the mother", () -> persons(2), x -> x.person(true, 0, -1, -1));
        check.noArgument("a man as the mother, beside a father", () -> persons(2), x -> x.person(true, 0, 0, -1));
        check.noArgument("a woman as the father", () -> persons(2), x -> x.person(true, -1, 1, -1));
        check.noArgument("a woman as the father, beside a mother", () -> persons(2), x -> x.person(true, 1, 1, -1));
    }

    private void personRefusesFaiths() {
        check.promise(8, "- `faith`: the number of a community without mother and father; otherwise NONE");
        check.noArgument("NONE without both", () -> persons(2), x -> x.person(true, -1, -1, -1));
        check.noArgument("NONE without both, without communities", () -> new Milletcourt(),
                x -> x.person(true, -1, -1, -1));
        check.noArgument("a faith beside a mother", () -> persons(2), x -> x.person(true, 1, -1, 0));
        check.noArgument("a faith beside a father", () -> persons(2), x -> x.person(true, -1, 0, 0));
        check.noArgument("a faith beside both", () -> persons(2), x -> x.person(true, 1, 0, 0));
    }

    private void personRefusesInOrder() {
        check.says("if several exceptions apply, the one that its throws clause names first is thrown.");
        check.noIndex("father, then mother", () -> persons(2), x -> x.person(true, 0, 2, -1));
        check.noIndex("mother, then father", () -> persons(2), x -> x.person(true, 2, 1, -1));
        check.noIndex("community, then faith beside a mother", () -> persons(2), x -> x.person(true, 1, -1, 1));
        check.noIndex("person, then faith NONE", () -> persons(2), x -> x.person(true, -2, -1, -1));
        check.noIndex("person, then room", () -> persons(40), x -> x.person(true, 40, -1, -1));
        check.noIndex("community, then room", () -> persons(40), x -> x.person(true, -1, -1, 1));
        check.noArgument("mother, then room", () -> persons(40), x -> x.person(true, 0, -1, -1));
        check.noArgument("father, then room", () -> persons(40), x -> x.person(true, -1, 1, -1));
        check.noArgument("faith, then room", () -> persons(40), x -> x.person(true, -1, -1, -1));
    }

    // ---- turning

    /** The man 7 of the faith 0 and the men 8, 9 of the faith 1 are born on the day 5000; so many days go by. */
    private static Milletcourt bornLate(int days) {
        Milletcourt x = grown();
        Check.man(x, 0);
        Check.man(x, 1);
        Check.man(x, 1);
        Check.passDays(x, days);
        return x;
    }

    private void minorsWhoTurn() {
        check.says("A person is a minor for 5000 days from birth on, that of birth counted.");
        check.noState("on the day of birth", () -> bornLate(0), x -> x.turn(7, 1, 3, 4));
        check.noState("on its 5000th day", () -> bornLate(4999), x -> x.turn(7, 1, 3, 4));
        check.due("on the day behind", 10030, bornLate(5000).turn(7, 1, 3, 4));
    }

    private void minorsAsWitnesses() {
        check.says("One who is no minor can turn to another faith than the one of that day, before two witnesses, who "
                + "live, are no minors, and have that faith:");
        check.noState("the first one on its 5000th day", () -> bornLate(4999), x -> x.turn(0, 1, 8, 3));
        check.noState("the second one on its 5000th day", () -> bornLate(4999), x -> x.turn(0, 1, 3, 8));
        check.due("both on the day behind", 10030, bornLate(5000).turn(0, 1, 8, 9));
    }

    private void turnAnswers() {
        check.promise(9, "Lets a person turn to a faith.");
        check.promise(9, "- `community`: the number of a community");
        check.promise(9, "- `one`: a witness");
        check.promise(9, "- `other`: another witness");
        check.promise(9, "Returns the day on which the person takes it.");
        Milletcourt x = grown();
        check.due("the highest community", 5030, x.turn(0, 2, 5, 6));
        check.due("asked", 5030, x.ofPerson(0, 3));
        x.pass(1);
        check.due("the lowest community, a day on", 5031, x.turn(3, 0, 1, 2));
        check.due("a witness who is turning", 5031, x.turn(4, 0, 0, 2));
    }

    private void takenAfterThirtyDays() {
        check.says("30 days later the person has it, unless it was recanted, or the person has died.");
        Milletcourt x = grown();
        x.turn(0, 1, 3, 4);
        x.pass(29);
        check.due("29 days later", 0, x.faith(0, 5029));
        check.due("turning yet", 5030, x.ofPerson(0, 3));
        x.pass(1);
        check.due("30 days later", 1, x.faith(0, 5030));
        check.due("turning no more", -1, x.ofPerson(0, 3));
        x.pass(1);
        check.due("31 days later", 1, x.faith(0, 5031));
        check.due("the 29th day as it was", 0, x.faith(0, 5029));
    }

    private void takenAtTheEndOfAPass() {
        check.says("30 days later the person has it, unless it was recanted, or the person has died.");
        Milletcourt x = grown();
        Check.passDays(x, 24969);
        x.turn(0, 1, 3, 4);
        x.pass(1);
        check.due("that would be the day 30000", 30000, x.turn(1, 1, 3, 4));
        check.due("so does the day behind the last one", 29999, x.ofPerson(0, 3));
        x.pass(30);
        check.due("the last day but one", 1, x.faith(0, 29999));
        check.due("the last day", 1, x.faith(1, 30000));
        check.due("a day that does not come", 30030, x.turn(2, 1, 3, 4));
        check.noState("which is above 30000", () -> x.pass(30));
        check.due("it is turning for good", 30030, x.ofPerson(2, 3));
    }

    private void recantedInTime() {
        check.says("30 days later the person has it, unless it was recanted, or the person has died.");
        Milletcourt x = grown();
        x.turn(0, 1, 3, 4);
        x.pass(29);
        check.due("on the 29th day", 1, x.recant(0));
        x.pass(2);
        check.due("it is not taken", 0, x.faith(0, 5031));
        Milletcourt y = grown();
        y.turn(0, 1, 3, 4);
        check.due("on the same day", 1, y.recant(0));
        check.due("turning to another one, the same day", 5030, y.turn(0, 2, 5, 6));
        y.pass(30);
        check.due("the other one is taken", 2, y.faith(0, 5030));
        check.due("no more to come", -1, y.ofPerson(0, 3));
    }

    private void deadInTime() {
        check.says("30 days later the person has it, unless it was recanted, or the person has died.");
        Milletcourt x = grown();
        int child = x.person(true, -1, 0, -1);
        x.turn(0, 1, 3, 4);
        x.pass(29);
        x.dies(0);
        x.pass(2);
        check.due("dead on the 29th day", 0, x.faith(0, 5031));
        check.due("nor does a child take it", 0, x.faith(child, 5031));
        Milletcourt y = grown();
        y.turn(0, 1, 3, 4);
        y.pass(30);
        y.dies(0);
        y.pass(1);
        check.due("dead on the 30th day", 1, y.faith(0, 5030));
        check.due("the dead keep it", 1, y.faith(0, 5031));
    }

    private void dueOnOneDay() {
        check.says("Those that are due on one day take it in the order of their numbers.");
        Milletcourt x = grown();
        int late = Check.man(x, 0);
        int ofLate = x.person(true, -1, late, -1);
        Check.passDays(x, 4999);
        x.person(true, -1, late, -1);
        x.pass(1);
        x.turn(late, 1, 3, 4);
        x.turn(0, 1, 3, 4);
        x.turn(1, 2, 5, 6);
        x.turn(3, 0, 0, 2);
        x.turn(ofLate, 2, 5, 6);
        x.pass(30);
        int[] due = {1, 2, 0, 0, 1, 2, 2, 1, 2, 1};
        for (int p = 0; p < due.length; p++) {
            check.due("the faith of person " + p, due[p], x.faith(p, 10030));
        }
    }

    private void turningAgain() {
        check.promise(9, "Throws `IllegalStateException` if the person does not live, is a minor, has that faith, or is "
                + "turning already, or a witness does not live, is a minor, or does not have that faith");
        Milletcourt x = grown();
        x.turn(0, 1, 3, 4);
        x.pass(29);
        check.noState("turning already, a day ahead", () -> x.turn(0, 2, 5, 6));
        x.pass(1);
        check.noState("the faith that it has since today", () -> x.turn(0, 1, 3, 4));
        check.due("on the day of taking it", 5060, x.turn(0, 2, 5, 6));
        check.due("who has that faith since today as a witness", 5060, x.turn(1, 1, 0, 3));
    }

    private void turnRefusesNumbers() {
        check.promise(9, "- `person`: the number of a person");
        check.promise(9, "Throws `IndexOutOfBoundsException` if there is no such person, community or witness");
        int[] noPersons = {-1, 8, Integer.MIN_VALUE, Integer.MAX_VALUE};
        for (int p : noPersons) {
            check.noIndex("person " + p, () -> turning(), x -> x.turn(p, 1, 3, 4));
            check.noIndex("first witness " + p, () -> turning(), x -> x.turn(1, 1, p, 4));
            check.noIndex("second witness " + p, () -> turning(), x -> x.turn(1, 1, 3, p));
        }
        int[] noCommunities = {-1, 3, Integer.MIN_VALUE, Integer.MAX_VALUE};
        for (int c : noCommunities) {
            check.noIndex("community " + c, () -> turning(), x -> x.turn(1, c, 3, 4));
        }
        check.noIndex("without persons", () -> Check.empire(2), x -> x.turn(0, 1, 1, 2));
    }

    private void turnRefusesTheSame() {
        check.promise(9, "Throws `IllegalArgumentException` if both witnesses are the same, or one is the person");
        check.noArgument("both the same", () -> turning(), x -> x.turn(1, 1, 3, 3));
        check.noArgument("the first one is the person", () -> turning(), x -> x.turn(1, 1, 1, 3));
        check.noArgument("the second one is the person", () -> turning(), x -> x.turn(1, 1, 3, 1));
        check.noArgument("all the same", () -> turning(), x -> x.turn(1, 1, 1, 1));
    }

    private void turnRefusesPersons() {
        check.promise(9, "Throws `IllegalStateException` if the person does not live, is a minor, has that faith, or is "
                + "turning already, or a witness does not live, is a minor, or does not have that faith");
        check.noState("turning already", () -> turning(), x -> x.turn(0, 2, 5, 6));
        check.noState("turning to it already", () -> turning(), x -> x.turn(0, 1, 3, 4));
        check.noState("a minor", () -> turning(), x -> x.turn(7, 2, 5, 6));
        check.noState("the faith that it has", () -> turning(), x -> x.turn(1, 0, 0, 2));
        check.noState("the dead", () -> withDead(1), x -> x.turn(1, 1, 3, 4));
    }

    private static Milletcourt withDead(int dead) {
        Milletcourt x = turning();
        x.dies(dead);
        return x;
    }

    private void turnRefusesWitnesses() {
        check.promise(9, "Throws `IllegalStateException` if the person does not live, is a minor, has that faith, or is "
                + "turning already, or a witness does not live, is a minor, or does not have that faith");
        check.noState("the first one dead", () -> withDead(3), x -> x.turn(1, 1, 3, 4));
        check.noState("the second one dead", () -> withDead(4), x -> x.turn(1, 1, 3, 4));
        check.noState("the first one a minor", () -> turning(), x -> x.turn(1, 1, 7, 4));
        check.noState("the second one a minor", () -> turning(), x -> x.turn(1, 1, 3, 7));
        check.noState("the first one of another faith", () -> turning(), x -> x.turn(1, 1, 5, 4));
        check.noState("the second one of another faith", () -> turning(), x -> x.turn(1, 1, 3, 5));
        check.noState("the second one turning to it", () -> turning(), x -> x.turn(1, 1, 3, 0));
        check.noState("both of the person's own faith", () -> turning(), x -> x.turn(1, 1, 0, 2));
    }

    private void turnRefusesInOrder() {
        check.says("if several exceptions apply, the one that its throws clause names first is thrown.");
        check.noIndex("community, then the same witnesses", () -> turning(), x -> x.turn(1, 3, 3, 3));
        check.noIndex("person, then the same witnesses", () -> turning(), x -> x.turn(8, 1, 3, 3));
        check.noIndex("witnesses, then the same", () -> turning(), x -> x.turn(1, 1, 8, 8));
        check.noIndex("second witness, then turning already", () -> turning(), x -> x.turn(0, 1, 3, -1));
        check.noIndex("community, then a minor", () -> turning(), x -> x.turn(7, -1, 3, 4));
        check.noArgument("the same witnesses, then turning already", () -> turning(), x -> x.turn(0, 1, 3, 3));
        check.noArgument("the person as a witness, then a minor", () -> turning(), x -> x.turn(7, 2, 7, 5));
        check.noArgument("the same witnesses, then the dead", () -> withDead(1), x -> x.turn(1, 1, 3, 3));
    }

    // ---- recanting

    private void recantAnswers() {
        check.promise(10, "Recants.");
        check.promise(10, "- `person`: the number of a person");
        check.promise(10, "Returns the community to which the person was turning.");
        Milletcourt x = grown();
        x.turn(0, 2, 5, 6);
        x.turn(3, 0, 1, 2);
        check.due("the highest community", 2, x.recant(0));
        check.due("the lowest one", 0, x.recant(3));
        check.due("turning no more", -1, x.ofPerson(3, 3));
    }

    private void recantRefuses() {
        check.promise(10, "Throws `IndexOutOfBoundsException` if there is no such person");
        int[] none = {-1, 8, Integer.MIN_VALUE, Integer.MAX_VALUE};
        for (int p : none) {
            check.noIndex("person " + p, () -> turning(), x -> x.recant(p));
        }
        check.noIndex("without persons", () -> new Milletcourt(), x -> x.recant(0));
        check.promise(10, "Throws `IllegalStateException` if the person is not turning");
        check.noState("never turning", () -> turning(), x -> x.recant(1));
        check.noState("recanted", () -> recanted(), x -> x.recant(0));
        check.noState("dead", () -> withDead(0), x -> x.recant(0));
        check.noState("taken", () -> taken(), x -> x.recant(0));
    }

    private static Milletcourt recanted() {
        Milletcourt x = turning();
        x.recant(0);
        return x;
    }

    private static Milletcourt taken() {
        Milletcourt x = turning();
        x.pass(27);
        return x;
    }

    // ---- children who follow

    private static final String FOLLOWING = "When a person takes a faith, each child that lives and is a minor, and whose "
            + "father it is, or whose mother it is, if the child has no father, takes it, too, and the children of that "
            + "child likewise, and so on;";

    private void childrenAtTheirLastDayAsMinors() {
        check.says(FOLLOWING);
        for (int days = 4999; days < 5001; days++) {
            Milletcourt x = grown();
            int child = x.person(true, -1, 0, -1);
            Check.passDays(x, days - 30);
            takesOne(x, 0);
            check.due("a child, days behind its birth: " + days, days == 4999 ? 1 : 0, x.faith(child, 5000 + days));
        }
    }

    private void childrenWhoLive() {
        check.says(FOLLOWING);
        Milletcourt x = grown();
        int dead = x.person(true, -1, 0, -1);
        int late = x.person(true, -1, 0, -1);
        x.turn(0, 1, 3, 4);
        x.pass(29);
        x.dies(dead);
        x.pass(1);
        x.dies(late);
        check.due("dead the day ahead", 0, x.faith(dead, 5030));
        check.due("dead that day, behind it", 1, x.faith(late, 5030));
    }

    private void childrenOfOneParent() {
        check.says(FOLLOWING);
        Milletcourt x = grown();
        int ofBoth = x.person(true, 2, 0, -1);
        int ofMother = x.person(true, 2, -1, -1);
        int ofFather = x.person(true, -1, 0, -1);
        int ofOther = x.person(true, 2, 1, -1);
        takesOne(x, 2);
        int[] dueByMother = {0, 1, 0, 0};
        int[] children = {ofBoth, ofMother, ofFather, ofOther};
        for (int i = 0; i < 4; i++) {
            check.due("when the mother turns, child " + i, dueByMother[i], x.faith(children[i], 5030));
        }
        takesTwo(x, 0);
        int[] dueByFather = {2, 1, 2, 0};
        for (int i = 0; i < 4; i++) {
            check.due("when the father turns, child " + i, dueByFather[i], x.faith(children[i], 5060));
        }
        x.dies(1);
        takesTwo(x, 2);
        check.due("when the mother turns, of a dead father", 0, x.faith(ofOther, 5090));
    }

    private void childrenOfChildren() {
        check.says(FOLLOWING);
        Milletcourt x = grown();
        int last = 0;
        int[] line = new int[30];
        for (int i = 0; i < line.length; i++) {
            boolean isMan = i % 2 == 0;
            boolean hasFather = i % 2 == 1 || i == 0;
            line[i] = x.person(isMan, hasFather ? -1 : last, hasFather ? last : -1, -1);
            last = line[i];
        }
        takesOne(x, 0);
        for (int i = 0; i < line.length; i++) {
            check.due("a line of children, one below the other: " + i, 1, x.faith(line[i], 5030));
        }
    }

    private void childrenBelowOthers() {
        check.says(FOLLOWING);
        Milletcourt x = grown();
        int old = x.person(true, -1, 0, -1);
        x.pass(2000);
        int dead = x.person(true, -1, 0, -1);
        int daughter = x.person(false, -1, 0, -1);
        int belowDead = x.person(true, -1, dead, -1);
        x.dies(dead);
        Check.passDays(x, 3000);
        int belowOld = x.person(true, -1, old, -1);
        int belowDaughter = x.person(true, daughter, -1, -1);
        int ofDaughterAndOther = x.person(true, daughter, 1, -1);
        takesOne(x, 0);
        check.due("a grown child", 0, x.faith(old, 10030));
        check.due("below a grown child", 0, x.faith(belowOld, 10030));
        check.due("below a dead child", 0, x.faith(belowDead, 10030));
        check.due("a daughter", 1, x.faith(daughter, 10030));
        check.due("her child without a father", 1, x.faith(belowDaughter, 10030));
        check.due("her child of another father", 0, x.faith(ofDaughterAndOther, 10030));
    }

    private void childrenOfOthers() {
        check.says(FOLLOWING);
        Milletcourt x = grown();
        int ofFirst = x.person(true, -1, 0, -1);
        int last = Check.man(x, 0);
        Check.passDays(x, 5000);
        int ofLast = x.person(true, -1, last, -1);
        int next = x.person(true, -1, 0, -1);
        takesOne(x, 0);
        check.due("of who turned first", 1, x.faith(next, 10030));
        check.due("of another one", 0, x.faith(ofLast, 10030));
        takesTwo(x, last);
        check.due("of who turned then", 2, x.faith(ofLast, 10060));
        check.due("of who had turned before", 1, x.faith(next, 10060));
        check.due("a grown one", 0, x.faith(ofFirst, 10060));
        int child = x.person(true, -1, ofLast, -1);
        int below = x.person(true, -1, child, -1);
        takesOne(x, last);
        check.due("below, one number behind the other", 1, x.faith(below, 10090));
    }

    private void childrenRightBehind() {
        check.says(FOLLOWING);
        Milletcourt x = grown();
        int last = Check.man(x, 0);
        Check.passDays(x, 5000);
        int child = x.person(true, -1, last, -1);
        takesOne(x, last);
        check.due("whose number is the next one", 1, x.faith(child, 10030));
    }

    /** A minor always has what the one has whom it follows, so that no run comes to one that has it already. */
    private void childrenWhoHaveIt() {
        check.says("a child that has it already takes nothing, nor do its own children by that.");
        Milletcourt x = grown();
        int child = x.person(true, 2, 0, -1);
        int below = x.person(true, -1, child, -1);
        takesOne(x, 2);
        check.due("whose mother has it, before", 0, x.faith(child, 5030));
        takesOne(x, 0);
        check.due("one faith for all", 1, x.faith(child, 5060));
        check.due("below", 1, x.faith(below, 5060));
        takesTwo(x, 0);
        takesOne(x, 0);
        check.due("to and fro", 1, x.faith(child, 5120));
        check.due("to and fro, below", 1, x.faith(below, 5120));
        check.due("the day ahead", 2, x.faith(below, 5119));
    }

    // ---- undoing

    private void undoneWithinTheDays() {
        check.says(UNDOING);
        for (int days = 98; days < 102; days++) {
            Milletcourt x = grown();
            takesOne(x, 0);
            x.pass(days - 30);
            takesZero(x, 0);
            int due = days < 100 ? 0 : 1;
            check.due("days behind: " + days + ", the day of taking", due, x.faith(0, 5030));
            check.due("days behind: " + days + ", the last day", due, x.faith(0, 5029 + days));
            check.due("days behind: " + days + ", now", 0, x.faith(0, 5030 + days));
        }
    }

    private void undoneRightAhead() {
        check.says(UNDOING);
        Milletcourt x = grown();
        takesOne(x, 0);
        takesTwo(x, 0);
        takesZero(x, 0);
        check.due("not right ahead, the first", 1, x.faith(0, 5030));
        check.due("not right ahead, the second", 2, x.faith(0, 5060));
        check.due("not right ahead, the third", 0, x.faith(0, 5090));
        takesTwo(x, 0);
        check.due("right ahead, the third", 2, x.faith(0, 5090));
        check.due("right ahead, the second", 2, x.faith(0, 5060));
        check.due("right ahead, the first", 1, x.faith(0, 5059));
    }

    private void undoneFromBirth() {
        check.says(UNDOING);
        Milletcourt x = grown();
        takesOne(x, 0);
        check.due("the faith of birth has none ahead", 0, x.faith(0, 5029));
        check.due("what is taken stays", 1, x.faith(0, 5030));
        x.pass(69);
        takesZero(x, 0);
        check.due("that of birth, on the day 0", 0, x.faith(0, 0));
        check.due("that of birth, as if never left", 0, x.faith(0, 5128));
    }

    private void undoneInWhateverWay() {
        check.says(UNDOING);
        for (int days = 99; days < 101; days++) {
            Milletcourt x = grown();
            int child = x.person(true, -1, 0, -1);
            Check.passDays(x, 4969);
            takesOne(x, 0);
            check.due("followed on its last day as a minor", 1, x.faith(child, 9999));
            x.pass(days - 30);
            takesZero(x, child);
            check.due("days behind following: " + days, days < 100 ? 0 : 1, x.faith(child, 9999));
            check.due("who was followed keeps it", 1, x.faith(0, 9999));
        }
    }

    private void undoneWhatBothFollowed() {
        check.says(UNDOING);
        Milletcourt x = grown();
        int child = x.person(true, -1, 0, -1);
        Check.passDays(x, 4900);
        takesOne(x, 0);
        takesTwo(x, 0);
        check.due("followed on the day 9960", 2, x.faith(child, 9960));
        x.pass(40);
        takesOne(x, child);
        check.due("70 days behind", 1, x.faith(child, 9960));
        check.due("the one right ahead stays from its day on", 1, x.faith(child, 9930));
        check.due("not from the day ahead", 0, x.faith(child, 9929));
    }

    private void undoneByTurningAlone() {
        check.says(UNDOING);
        Milletcourt x = grown();
        int child = x.person(true, -1, 0, -1);
        takesOne(x, 0);
        takesZero(x, 0);
        check.due("who turns", 0, x.faith(0, 5030));
        check.due("who follows", 1, x.faith(child, 5030));
        check.due("who follows, the day ahead of following back", 1, x.faith(child, 5059));
        check.due("who follows, then", 0, x.faith(child, 5060));
    }

    private void undoneOnAllDays() {
        check.says("its faith is as if neither had been taken, on all days;");
        Milletcourt x = grown();
        takesOne(x, 0);
        check.due("the court then", 1, x.court(0, 0, 1, 5030));
        x.pass(60);
        check.due("known as taken", 1, x.faith(0, 5090));
        takesZero(x, 0);
        int[] days = {0, 4999, 5029, 5030, 5031, 5090, 5119, 5120};
        for (int day : days) {
            check.due("on the day " + day, 0, x.faith(0, day));
            check.due("the court of the day " + day, 0, x.court(0, 0, 1, day));
        }
    }

    private void undoneTwice() {
        check.says("its faith is as if neither had been taken, on all days;");
        for (int days = 99; days < 101; days++) {
            Milletcourt x = grown();
            takesOne(x, 0);
            takesTwo(x, 0);
            takesOne(x, 0);
            x.pass(days - 90);
            takesZero(x, 0);
            check.due("days behind the first, which counts: " + days, days < 100 ? 0 : 1, x.faith(0, 5030));
        }
        Milletcourt y = grown();
        takesOne(y, 0);
        takesZero(y, 0);
        takesOne(y, 0);
        check.due("taken anew, the day ahead", 0, y.faith(0, 5089));
        check.due("taken anew, then", 1, y.faith(0, 5090));
        y.pass(69);
        takesZero(y, 0);
        check.due("99 days behind taking it anew", 0, y.faith(0, 5090));
    }

    private void undoneWithChildren() {
        check.says("its children take it all the same.");
        Milletcourt x = grown();
        int child = x.person(true, -1, 0, -1);
        int below = x.person(true, -1, child, -1);
        takesOne(x, 0);
        int between = x.person(true, -1, 0, -1);
        x.turn(0, 0, 1, 2);
        x.pass(29);
        check.due("the day ahead", 1, x.faith(child, 5059));
        x.pass(1);
        check.due("a child", 0, x.faith(child, 5060));
        check.due("a child's child", 0, x.faith(below, 5060));
        check.due("who was born between", 0, x.faith(between, 5060));
        check.due("who was born between, before", 1, x.faith(between, 5030));
        check.due("theirs is not undone", 1, x.faith(below, 5030));
    }

    // ---- faiths that are asked

    /** The man 0 is born on the day 5; it is the day 7. */
    private static Milletcourt bornOnDayFive() {
        Milletcourt x = Check.empire(2);
        x.pass(5);
        Check.man(x, 1);
        x.pass(2);
        return x;
    }

    private void faithDays() {
        check.promise(11, "Returns the faith of a person on a day, as it is known now.");
        check.promise(11, "- `day`: from the day of birth to today");
        check.promise(11, "Returns the community.");
        check.due("the day of birth", 1, bornOnDayFive().faith(0, 5));
        check.due("today", 1, bornOnDayFive().faith(0, 7));
        Milletcourt x = bornOnDayFive();
        x.dies(0);
        x.pass(1);
        check.due("of the dead, today", 1, x.faith(0, 8));
        check.promise(11, "Throws `IllegalArgumentException` if day is out of range");
        int[] none = {4, 8, -1, Integer.MIN_VALUE, Integer.MAX_VALUE};
        for (int day : none) {
            check.noArgument("day " + day, () -> bornOnDayFive(), y -> y.faith(0, day));
        }
    }

    private void faithRefuses() {
        check.promise(11, "- `person`: the number of a person");
        check.promise(11, "Throws `IndexOutOfBoundsException` if there is no such person");
        check.noIndex("without persons", () -> Check.empire(1), x -> x.faith(0, 0));
        int[] none = {-1, 1, Integer.MIN_VALUE, Integer.MAX_VALUE};
        for (int p : none) {
            check.noIndex("person " + p, () -> bornOnDayFive(), x -> x.faith(p, 7));
        }
        check.says("if several exceptions apply, the one that its throws clause names first is thrown.");
        check.noIndex("person, then day", () -> bornOnDayFive(), x -> x.faith(1, 8));
    }
}

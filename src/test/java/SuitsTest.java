/** Promises 16 to 22 and 25: sue, appear, testify, judge, appeal, execute, wins, ofSuit. */
public final class SuitsTest {
    private static final Check CHECK = new Check("SuitsTest");

    public static void main(String[] args) {
        suits();
        firstSeised();
        whoCanJudge();
        asToldUntilTheSuit();
        appearing();
        witnesses();
        weights();
        weightsOfTheDay();
        deadWitnesses();
        judgments();
        appeals();
        appealsTurnedToWon();
        appealsTurnedToLost();
        givingBack();
        givingBackToTheDead();
        executions();
        winning();
        CHECK.end();
    }

    /** Persons 0 to 7 of faith 0, 8 to 11 of faith 1, even ones men; all grown. */
    private static Milletcourt grown() {
        Milletcourt x = Check.empire(2);
        for (int i = 0; i < 12; i++) {
            x.person(i % 2 == 0, -1, -1, i < 8 ? 0 : 1);
        }
        Check.passDays(x, 5000);
        return x;
    }

    /** The suit 0 of 0 against 1 for 400, with two witnesses for. */
    private static Milletcourt sued() {
        Milletcourt x = grown();
        x.sue(0, 1, 0, 400);
        x.testify(0, 2, true);
        x.testify(0, 3, true);
        return x;
    }

    private static void suits() {
        Milletcourt x = grown();
        CHECK.due("the first number", 0, x.sue(0, 1, -1, 1));
        CHECK.due("the second one", 1, x.sue(2, 3, 1, 1000000));
        CHECK.due("seised", Milletcourt.SEISED, x.ofSuit(1, 0));
        CHECK.due("the court", 1, x.ofSuit(1, 1));
        CHECK.due("the crown's court", -1, x.ofSuit(0, 1));
        CHECK.due("without witnesses", 0, x.ofSuit(1, 2));
        CHECK.due("nothing is owed", 0, x.ofSuit(1, 3));
        CHECK.due("without a judgment", -1, x.ofSuit(1, 4));
    }

    private static void firstSeised() {
        Milletcourt x = grown();
        x.sue(0, 1, 0, 5);
        CHECK.due("told as void", 1, x.sue(0, 1, 1, 5));
        CHECK.due("the same two", Milletcourt.VOID, x.ofSuit(1, 0));
        x.sue(1, 0, -1, 5);
        CHECK.due("the other way round", Milletcourt.VOID, x.ofSuit(2, 0));
        x.sue(1, 2, 0, 5);
        CHECK.due("one of the two", Milletcourt.SEISED, x.ofSuit(3, 0));
        x.sue(3, 0, 0, 5);
        CHECK.due("the other one of the two", Milletcourt.SEISED, x.ofSuit(4, 0));
        x.judge(0);
        CHECK.due("void for good", Milletcourt.VOID, x.ofSuit(1, 0));
        x.sue(1, 0, 0, 5);
        CHECK.due("when the first is judged", Milletcourt.SEISED, x.ofSuit(5, 0));
        x.sue(0, 1, 0, 5);
        CHECK.due("then again void", Milletcourt.VOID, x.ofSuit(6, 0));
    }

    private static void whoCanJudge() {
        Milletcourt x = grown();
        x.sue(0, 8, 0, 5);
        CHECK.noState("by OTHER, the plaintiff's court", () -> x.judge(0));
        x.sue(8, 1, 0, 5);
        CHECK.due("by OTHER, the defendant's", false, x.judge(1));
        x.rule(3, 0);
        x.sue(2, 9, 0, 5);
        CHECK.due("by ONE, the plaintiff's", false, x.judge(2));
        x.rule(3, 2);
        x.sue(3, 9, -1, 5);
        CHECK.due("by ALIKE, the crown's", false, x.judge(3));
        x.sue(3, 4, -1, 5);
        CHECK.noState("by ALIKE, not the crown's", () -> x.judge(4));
        x.recognise(0, false);
        x.sue(4, 5, 0, 5);
        CHECK.noState("one that is not recognised", () -> x.judge(5));
        x.sue(5, 6, -1, 5);
        CHECK.due("the crown's instead", false, x.judge(6));
    }

    private static void asToldUntilTheSuit() {
        Milletcourt x = grown();
        x.sue(0, 1, 0, 5);
        x.sue(2, 3, -1, 5);
        x.rule(3, 3);
        x.recognise(0, false);
        CHECK.due("what is told later alters nothing", false, x.judge(0));
        CHECK.noState("nor does it help", () -> x.judge(1));
        Milletcourt y = grown();
        y.turn(1, 1, 8, 9);
        y.pass(30);
        y.sue(0, 1, 1, 5);
        Check.take(y, 1, 0, 2, 3);
        CHECK.due("the faith is undone", 0, y.faith(1, 5030));
        CHECK.due("its court can judge it yet", false, y.judge(0));
    }

    private static void appearing() {
        Milletcourt x = grown();
        x.sue(0, 1, 1, 5);
        x.sue(2, 3, 0, 5);
        CHECK.due("could not judge", true, x.appear(0));
        CHECK.due("can judge then", false, x.appear(0));
        CHECK.due("could judge", false, x.appear(1));
        CHECK.due("judges", false, x.judge(0));
        CHECK.due("lost", Milletcourt.LOST, x.ofSuit(0, 0));
    }

    private static void witnesses() {
        Milletcourt x = grown();
        x.sue(0, 1, 0, 5);
        CHECK.due("one", 1, x.testify(0, 2, true));
        CHECK.due("two", 2, x.testify(0, 9, false));
        CHECK.due("three", 3, x.testify(0, 3, true));
        CHECK.due("how many", 3, x.ofSuit(0, 2));
        x.sue(2, 1, 0, 5);
        CHECK.due("in another suit", 1, x.testify(1, 9, true));
    }

    private static void weights() {
        Milletcourt x = grown();
        x.decree(0, 6, 1);
        x.sue(0, 1, 0, 5);
        x.testify(0, 2, true);
        CHECK.due("2 for", false, x.wins(0, 0));
        x.testify(0, 8, true);
        CHECK.due("3 for", false, x.wins(0, 0));
        x.testify(0, 9, true);
        CHECK.due("4 for", true, x.wins(0, 0));
        x.testify(0, 3, false);
        x.testify(0, 10, false);
        CHECK.due("4 for, 3 against", true, x.wins(0, 0));
        x.testify(0, 11, false);
        CHECK.due("4 for, 4 against", false, x.wins(0, 0));
        x.testify(0, 4, true);
        CHECK.due("6 for, 4 against", true, x.wins(0, 0));
        x.decree(0, 6, 2);
        CHECK.due("6 for, 5 against", true, x.judge(0));
        x.decree(-1, 6, 0);
        CHECK.due("4 for, 3 against", true, x.wins(0, -1));
        x.decree(-1, 6, 61);
        CHECK.due("bits of other communities", true, x.wins(0, -1));
    }

    private static void weightsOfTheDay() {
        Milletcourt x = sued();
        x.decree(0, 6, 2);
        CHECK.due("by the law of the day", false, x.wins(0, 0));
        Check.take(x, 2, 1, 8, 9);
        CHECK.due("one of the other faith", false, x.wins(0, 0));
        Check.take(x, 3, 1, 8, 9);
        CHECK.due("by the faiths of the day", true, x.judge(0));
        CHECK.due("the day", 5060, x.ofSuit(0, 4));
    }

    private static void deadWitnesses() {
        Milletcourt x = sued();
        x.dies(2);
        x.dies(3);
        x.pass(1);
        CHECK.due("died since", true, x.wins(0, 0));
        x.dies(0);
        x.dies(1);
        CHECK.due("both dead", true, x.judge(0));
        CHECK.due("owed", 400, x.ofSuit(0, 3));
    }

    private static void judgments() {
        Milletcourt x = sued();
        CHECK.due("won", true, x.judge(0));
        CHECK.due("WON", Milletcourt.WON, x.ofSuit(0, 0));
        CHECK.due("owed", 400, x.ofSuit(0, 3));
        CHECK.due("the day", 5000, x.ofSuit(0, 4));
        x.sue(0, 1, 0, 5);
        CHECK.due("lost", false, x.judge(1));
        CHECK.due("LOST", Milletcourt.LOST, x.ofSuit(1, 0));
        CHECK.due("nothing is owed", 0, x.ofSuit(1, 3));
        x.rule(3, 3);
        x.sue(4, 5, -1, 7);
        x.testify(2, 0, true);
        x.testify(2, 1, true);
        CHECK.due("before the crown", true, x.judge(2));
    }

    private static void appeals() {
        Milletcourt x = sued();
        x.judge(0);
        x.pass(60);
        CHECK.due("won again, 60 days behind", true, x.appeal(0));
        CHECK.due("the day of the appeal", 5060, x.ofSuit(0, 4));
        CHECK.due("the court before which it was told", 0, x.ofSuit(0, 1));
        CHECK.due("owed as before", 400, x.ofSuit(0, 3));
        CHECK.noState("appealed once", () -> x.appeal(0));
        Milletcourt y = sued();
        y.goods(1, 100);
        y.judge(0);
        y.execute(0);
        y.appeal(0);
        CHECK.due("what is owed yet", 300, y.ofSuit(0, 3));
        Milletcourt z = grown();
        z.sue(0, 1, 0, 9);
        z.judge(0);
        z.pass(1);
        CHECK.due("lost again", false, z.appeal(0));
        CHECK.due("LOST", Milletcourt.LOST, z.ofSuit(0, 0));
        CHECK.due("nothing is owed", 0, z.ofSuit(0, 3));
        CHECK.due("the day of that", 5001, z.ofSuit(0, 4));
    }

    private static void appealsTurnedToWon() {
        Milletcourt x = sued();
        x.decree(0, 6, 0);
        CHECK.due("lost before the community", false, x.judge(0));
        CHECK.due("won before the crown", true, x.appeal(0));
        CHECK.due("WON", Milletcourt.WON, x.ofSuit(0, 0));
        CHECK.due("all is owed", 400, x.ofSuit(0, 3));
        x.goods(1, 500);
        CHECK.due("it is paid", 400, x.execute(0));
    }

    private static void appealsTurnedToLost() {
        Milletcourt x = sued();
        x.goods(1, 150);
        x.judge(0);
        x.execute(0);
        x.decree(-1, 6, 0);
        CHECK.due("lost before the crown", false, x.appeal(0));
        CHECK.due("LOST", Milletcourt.LOST, x.ofSuit(0, 0));
        CHECK.due("nothing is owed", 0, x.ofSuit(0, 3));
        CHECK.due("what was paid goes back", 150, x.ofPerson(1, 0));
        CHECK.due("from the plaintiff", 0, x.ofPerson(0, 0));
        CHECK.noState("it is not won", () -> x.execute(0));
    }

    private static void givingBack() {
        Milletcourt x = sued();
        x.goods(1, 150);
        x.judge(0);
        x.execute(0);
        x.sue(4, 0, 0, 100);
        x.testify(1, 5, true);
        x.testify(1, 6, true);
        x.judge(1);
        x.execute(1);
        x.decree(-1, 6, 0);
        x.appeal(0);
        CHECK.due("as far as the plaintiff has goods", 50, x.ofPerson(1, 0));
        CHECK.due("who has nothing then", 0, x.ofPerson(0, 0));
        Milletcourt y = sued();
        y.goods(0, 1000);
        y.goods(1, 150);
        y.judge(0);
        y.execute(0);
        y.decree(-1, 6, 0);
        y.appeal(0);
        CHECK.due("no more than was paid", 1000, y.ofPerson(0, 0));
        CHECK.due("all that was paid", 150, y.ofPerson(1, 0));
    }

    private static void givingBackToTheDead() {
        Milletcourt x = sued();
        x.goods(1, 150);
        x.judge(0);
        x.execute(0);
        x.dies(1);
        x.decree(-1, 6, 0);
        CHECK.due("lost", false, x.appeal(0));
        CHECK.due("nothing goes back", 150, x.ofPerson(0, 0));
        CHECK.due("nothing to the dead", 0, x.ofPerson(1, 0));
        CHECK.due("nothing is owed", 0, x.ofSuit(0, 3));
        Milletcourt y = sued();
        y.goods(1, 150);
        y.judge(0);
        y.execute(0);
        y.dies(0);
        y.decree(-1, 6, 0);
        CHECK.due("lost by the dead", false, y.appeal(0));
        CHECK.due("nothing comes back", 0, y.ofPerson(1, 0));
    }

    private static void executions() {
        Milletcourt x = sued();
        x.judge(0);
        CHECK.due("perhaps nothing", 0, x.execute(0));
        x.goods(1, 150);
        CHECK.due("what the defendant has", 150, x.execute(0));
        CHECK.due("owed yet", 250, x.ofSuit(0, 3));
        x.goods(1, 300);
        CHECK.due("what is owed yet", 250, x.execute(0));
        CHECK.due("the plaintiff has", 400, x.ofPerson(0, 0));
        CHECK.due("the defendant has", 50, x.ofPerson(1, 0));
        CHECK.due("nothing is owed", 0, x.ofSuit(0, 3));
        CHECK.noState("all is paid", () -> x.execute(0));
        CHECK.due("won as before", Milletcourt.WON, x.ofSuit(0, 0));
    }

    private static void winning() {
        Milletcourt x = sued();
        x.decree(1, 6, 2);
        CHECK.due("before the community 0", true, x.wins(0, 0));
        CHECK.due("before the community 1", false, x.wins(0, 1));
        CHECK.due("before the crown", true, x.wins(0, -1));
        x.sue(0, 1, 0, 5);
        CHECK.due("a void one", false, x.wins(1, 0));
        x.judge(0);
        x.pass(100);
        x.decree(0, 6, 0);
        CHECK.due("today, behind the judgment", false, x.wins(0, 0));
        CHECK.due("it stays won", Milletcourt.WON, x.ofSuit(0, 0));
    }
}

/** The edges of suits, by the words of the document: promises 16 to 22 and 25. */
final class SuitEdges {
    private static final int CROWNS = -1;

    private final Check check;

    SuitEdges(Check check) {
        this.check = check;
    }

    void all() {
        suitsAreNumbered();
        twentySuits();
        centsOfSuits();
        sueAnswers();
        sueRefuses();
        sueRefusesInOrder();
        voidAtOnce();
        voidAsLongAsSeised();
        judgedByTheMattersCourt();
        judgedByTheFaithsOfTheDay();
        judgedAsToldUntilTheCall();
        judgedBehindAppearing();
        appearRefuses();
        witnessesAreCounted();
        witnessesOnTheirDays();
        testifyRefuses();
        testifyRefusesInOrder();
        weightsByFaiths();
        weightsOfTheDayOfJudgment();
        weightsOfTheDead();
        fourAtLeast();
        moreThanThoseAgainst();
        wonOrLost();
        judgeRefuses();
        executedUntilAllIsPaid();
        executedWithWhatThereIs();
        executedIfBothLive();
        executeRefuses();
        appealedWithinTheDays();
        appealedOnce();
        appealedByTheCrownsLaw();
        appealedToLost();
        appealedToLostWithoutGoods();
        appealedToLostWithTheDead();
        appealedToWon();
        appealedToTheSame();
        appealRefuses();
        winsWhateverItIs();
        winsRefuses();
        questionsAnswered();
        questionsRefused();
    }

    /** On the day 5000: men 0 to 5 of faith 0, men 6 to 9 of faith 1, all grown. */
    private static Milletcourt grown() {
        Milletcourt x = Check.empire(2);
        for (int i = 0; i < 10; i++) {
            Check.man(x, i / 6);
        }
        Check.passDays(x, 5000);
        return x;
    }

    /** The suit 0 of 0 against 1 for 400 before their court, with two for it, and the void suit 1. */
    private static Milletcourt seised() {
        Milletcourt x = grown();
        x.sue(0, 1, 0, 400);
        x.testify(0, 2, true);
        x.testify(0, 3, true);
        x.sue(1, 0, 0, 9);
        return x;
    }

    /** That suit is WON; of the 400, as much is paid as is told. */
    private static Milletcourt won(int paid) {
        Milletcourt x = seised();
        x.judge(0);
        if (paid > 0) {
            x.goods(1, paid);
            x.execute(0);
        }
        return x;
    }

    /** That suit is LOST, as its court hears nobody wholly on that day; the crown would let it be WON. */
    private static Milletcourt lost() {
        Milletcourt x = seised();
        x.decree(0, 6, 0);
        x.judge(0);
        return x;
    }

    private static Milletcourt withDead(Milletcourt x, int dead) {
        x.dies(dead);
        return x;
    }

    private static Milletcourt daysOn(Milletcourt x, int days) {
        x.pass(days);
        return x;
    }

    /** The crown hears nobody wholly: two for a suit weigh too little then. */
    private static Milletcourt crownIsDeaf(Milletcourt x) {
        x.decree(CROWNS, 6, 0);
        return x;
    }

    private static Milletcourt suits(int count) {
        Milletcourt x = grown();
        for (int i = 0; i < count; i++) {
            x.sue(0, 1, 0, 5);
        }
        return x;
    }

    // ---- suing

    private void suitsAreNumbered() {
        check.says("Suits are numbered from 0, at most 20.");
        check.promise(16, "Sues.");
        check.promise(16, "Returns the number of the suit.");
        Milletcourt x = grown();
        for (int i = 0; i < 20; i++) {
            int next = i;
            check.noIndex("a suit before", () -> x.ofSuit(next, 0));
            check.due("the number", i, x.sue(i % 9, 9, 0, 5));
            check.due("seised, or void behind nine", i < 9 ? 0 : 1, x.ofSuit(i, 0));
        }
    }

    private void twentySuits() {
        check.promise(16, "Throws `IllegalStateException` if one does not live, or there are 20");
        check.due("the twentieth one", 19, suits(19).sue(2, 3, 0, 5));
        check.noState("one behind it", () -> suits(20), x -> x.sue(2, 3, 0, 5));
        Milletcourt x = suits(20);
        x.judge(0);
        check.noState("those that are judged, or void, count", () -> x.sue(2, 3, 0, 5));
    }

    private void centsOfSuits() {
        check.says("A suit is for some cents that a person owes another one, the first one being the plaintiff, before a "
                + "court;");
        check.promise(16, "- `cents`: 1 to 1000000");
        int[] fine = {1, 1000000};
        for (int cents : fine) {
            Milletcourt x = grown();
            x.sue(0, 1, 0, cents);
            x.testify(0, 2, true);
            x.testify(0, 3, true);
            x.judge(0);
            check.due("what is owed", cents, x.ofSuit(0, 3));
            x.goods(1, 1000000);
            check.due("what the defendant pays", cents, x.execute(0));
            check.due("what the plaintiff has", cents, x.ofPerson(0, 0));
        }
        check.promise(16, "Throws `IllegalArgumentException` if both persons are the same, or cents is out of range");
        int[] none = {0, -1, 1000001, Integer.MIN_VALUE, Integer.MAX_VALUE};
        for (int cents : none) {
            check.noArgument("cents " + cents, () -> seised(), x -> x.sue(2, 3, 0, cents));
        }
    }

    private void sueAnswers() {
        check.promise(16, "- `plaintiff`: the number of a person");
        check.promise(16, "- `defendant`: the number of a person");
        check.promise(16, "- `court`: the number of a community, or NONE for the crown");
        for (int court = -1; court < 2; court++) {
            Milletcourt x = grown();
            check.due("the number", 0, x.sue(0, 9, court, 5));
            check.due("the court", court, x.ofSuit(0, 1));
            check.due("seised, whatever court it is", 0, x.ofSuit(0, 0));
        }
        Milletcourt y = grown();
        int child = Check.man(y, 0);
        check.due("a minor may sue", 0, y.sue(child, 0, 0, 5));
        check.due("a minor may be sued", 1, y.sue(1, child, 0, 5));
    }

    private void sueRefuses() {
        check.promise(16, "Throws `IndexOutOfBoundsException` if there is no such person, of either, or no such community, "
                + "but for NONE");
        int[] noPersons = {-1, 10, Integer.MIN_VALUE, Integer.MAX_VALUE};
        for (int p : noPersons) {
            check.noIndex("plaintiff " + p, () -> seised(), x -> x.sue(p, 3, 0, 5));
            check.noIndex("defendant " + p, () -> seised(), x -> x.sue(2, p, 0, 5));
        }
        int[] noCommunities = {-2, 2, Integer.MIN_VALUE, Integer.MAX_VALUE};
        for (int c : noCommunities) {
            check.noIndex("court " + c, () -> seised(), x -> x.sue(2, 3, c, 5));
        }
        check.noIndex("without persons", () -> new Milletcourt(), x -> x.sue(0, 1, -1, 5));
        check.promise(16, "Throws `IllegalArgumentException` if both persons are the same, or cents is out of range");
        check.noArgument("both the same", () -> seised(), x -> x.sue(2, 2, 0, 5));
        check.promise(16, "Throws `IllegalStateException` if one does not live, or there are 20");
        check.noState("a dead plaintiff", () -> withDead(seised(), 2), x -> x.sue(2, 3, 0, 5));
        check.noState("a dead defendant", () -> withDead(seised(), 3), x -> x.sue(2, 3, 0, 5));
    }

    private void sueRefusesInOrder() {
        check.says("if several exceptions apply, the one that its throws clause names first is thrown.");
        check.noIndex("person, then the same", () -> seised(), x -> x.sue(10, 10, 0, 5));
        check.noIndex("court, then the same", () -> seised(), x -> x.sue(2, 2, 2, 5));
        check.noIndex("court, then cents", () -> seised(), x -> x.sue(2, 3, -2, 0));
        check.noIndex("court, then the dead", () -> withDead(seised(), 3), x -> x.sue(2, 3, 2, 5));
        check.noIndex("court, then room", () -> suits(20), x -> x.sue(2, 3, 2, 5));
        check.noArgument("the same, then the dead", () -> withDead(seised(), 3), x -> x.sue(3, 3, 0, 5));
        check.noArgument("cents, then the dead", () -> withDead(seised(), 3), x -> x.sue(2, 3, 0, 0));
        check.noArgument("cents, then room", () -> suits(20), x -> x.sue(2, 3, 0, 1000001));
        check.noArgument("the same, then room", () -> suits(20), x -> x.sue(2, 2, 0, 5));
    }

    private void voidAtOnce() {
        check.says("it is SEISED, or VOID at once, if another suit between the same two, whoever is the plaintiff, is "
                + "SEISED.");
        Milletcourt x = grown();
        int[][] told = {{0, 1, 0, 0}, {0, 1, 0, 1}, {1, 0, 0, 1}, {0, 1, -1, 1}, {0, 2, 0, 0}, {2, 1, 0, 0}, {1, 2, 1, 1},
            {3, 0, 0, 0}, {1, 3, 0, 0}};
        for (int i = 0; i < told.length; i++) {
            x.sue(told[i][0], told[i][1], told[i][2], 5);
            check.due("suit " + i, told[i][3], x.ofSuit(i, 0));
        }
    }

    private void voidAsLongAsSeised() {
        check.says("it is SEISED, or VOID at once, if another suit between the same two, whoever is the plaintiff, is "
                + "SEISED.");
        Milletcourt x = seised();
        check.due("void", 1, x.ofSuit(1, 0));
        x.pass(2000);
        x.sue(0, 1, 0, 5);
        check.due("void, days on", 1, x.ofSuit(2, 0));
        x.judge(0);
        check.due("void for good", 1, x.ofSuit(1, 0));
        x.sue(1, 0, 0, 5);
        check.due("seised, behind a judgment", 0, x.ofSuit(3, 0));
        x.judge(3);
        x.sue(0, 1, 0, 5);
        check.due("seised, behind two judgments", 0, x.ofSuit(4, 0));
    }

    // ---- who can judge

    private void judgedByTheMattersCourt() {
        check.says("Its court can judge it, if it was that of the matter, DEBT, on the day of the suit,");
        check.says("with the plaintiff as the first person,");
        int[] dueCourt = {0, 1, -1, -1};
        int[] dueCourtTheOtherWay = {1, 0, -1, -1};
        for (int rule = 0; rule < 4; rule++) {
            for (int court = -1; court < 2; court++) {
                Milletcourt x = grown();
                x.rule(3, rule);
                x.sue(0, 9, court, 5);
                x.sue(8, 1, court, 5);
                check.due("by " + rule + " before " + court, court == dueCourt[rule], canJudge(x, 0));
                check.due("the other way by " + rule + " before " + court, court == dueCourtTheOtherWay[rule],
                        canJudge(x, 1));
            }
        }
        Milletcourt y = grown();
        y.recognise(0, false);
        y.sue(2, 3, 0, 5);
        y.sue(4, 5, -1, 5);
        check.due("one that is not recognised", false, canJudge(y, 0));
        check.due("the crown's instead", true, canJudge(y, 1));
    }

    private static boolean canJudge(Milletcourt x, int suit) {
        try {
            x.judge(suit);
            return true;
        } catch (IllegalStateException e) {
            return false;
        }
    }

    private void judgedByTheFaithsOfTheDay() {
        check.says("Its court can judge it, if it was that of the matter, DEBT, on the day of the suit,");
        for (int days = 29; days < 31; days++) {
            Milletcourt x = grown();
            x.turn(1, 1, 8, 9);
            x.pass(days);
            x.sue(0, 1, 0, 5);
            x.sue(2, 1, 1, 5);
            x.pass(5);
            check.due("the old faith's, days behind: " + days, days == 29, canJudge(x, 0));
            check.due("the new faith's, days behind: " + days, days == 30, canJudge(x, 1));
        }
    }

    private void judgedAsToldUntilTheCall() {
        check.says("by all that had been told by the call that told the suit,");
        Milletcourt x = grown();
        x.sue(0, 1, 0, 5);
        x.sue(2, 3, -1, 5);
        x.rule(3, 3);
        x.sue(4, 5, -1, 5);
        check.due("a rule of that day, told later", true, canJudge(x, 0));
        check.due("which does not help", false, canJudge(x, 1));
        check.due("a rule of that day, told before", true, canJudge(x, 2));
        Milletcourt y = grown();
        y.sue(0, 1, 0, 5);
        y.recognise(0, false);
        y.sue(2, 3, -1, 5);
        y.recognise(0, true);
        check.due("recognised no more, told later", true, canJudge(y, 0));
        check.due("recognised again, told later", true, canJudge(y, 1));
        Milletcourt z = grown();
        Check.take(z, 1, 1, 8, 9);
        z.sue(0, 1, 1, 5);
        z.sue(2, 1, 0, 5);
        Check.take(z, 1, 0, 2, 3);
        check.due("its faith of that day is undone", 0, z.faith(1, 5030));
        check.due("as it was known then", true, canJudge(z, 0));
        check.due("as it was not known then", false, canJudge(z, 1));
    }

    private void judgedBehindAppearing() {
        check.says("or if the defendant appears.");
        check.promise(17, "Lets the defendant appear.");
        check.promise(17, "Returns whether the court could not judge it before.");
        Milletcourt x = grown();
        x.sue(0, 1, 1, 5);
        x.sue(2, 3, 0, 5);
        check.due("before appearing", false, canJudge(x, 0));
        check.due("it could not", true, x.appear(0));
        check.due("it can", false, x.appear(0));
        check.due("it could anyway", false, x.appear(1));
        check.due("behind appearing", true, canJudge(x, 0));
        check.due("behind appearing for nothing", true, canJudge(x, 1));
    }

    private void appearRefuses() {
        check.promise(17, "- `suit`: the number of a suit");
        check.promise(17, "Throws `IndexOutOfBoundsException` if there is no such suit");
        check.noIndex("without suits", () -> grown(), x -> x.appear(0));
        int[] none = {-1, 2, Integer.MIN_VALUE, Integer.MAX_VALUE};
        for (int s : none) {
            check.noIndex("suit " + s, () -> seised(), x -> x.appear(s));
        }
        check.promise(17, "Throws `IllegalStateException` if it is not SEISED, or the defendant does not live");
        check.noState("a void one", () -> seised(), x -> x.appear(1));
        check.noState("one that is won", () -> won(0), x -> x.appear(0));
        check.noState("one that is lost", () -> lost(), x -> x.appear(0));
        check.noState("a dead defendant", () -> withDead(seised(), 1), x -> x.appear(0));
        check.noState("a dead defendant before another court", () -> withDead(beforeAnotherCourt(), 3), x -> x.appear(2));
        check.due("a dead plaintiff", false, withDead(seised(), 0).appear(0));
    }

    // ---- witnesses

    private void witnessesAreCounted() {
        check.says("Witnesses are for the plaintiff, or against; a witness is living, no minor, neither of the two, and says "
                + "it once in a suit.");
        check.promise(18, "Hears a witness.");
        check.promise(18, "- `isFor`: whether for the plaintiff");
        check.promise(18, "Returns how many witnesses there are then.");
        Milletcourt x = grown();
        x.sue(0, 1, 0, 5);
        x.sue(2, 3, 0, 5);
        check.due("none", 0, x.ofSuit(0, 2));
        for (int p = 2; p < 10; p++) {
            check.due("by person " + p, p - 1, x.testify(0, p, p % 2 == 0));
        }
        check.due("in another suit", 1, x.testify(1, 9, true));
        check.due("a party of another suit", 2, x.testify(1, 0, true));
        check.due("how many", 8, x.ofSuit(0, 2));
    }

    /** The man 10 is born on the day 5000; so many days go by. */
    private static Milletcourt bornLate(int days) {
        Milletcourt x = seised();
        Check.man(x, 0);
        Check.passDays(x, days);
        return x;
    }

    private void witnessesOnTheirDays() {
        check.says("A person is a minor for 5000 days from birth on, that of birth counted.");
        check.noState("on the day of birth", () -> bornLate(0), x -> x.testify(0, 10, true));
        check.noState("on its 5000th day", () -> bornLate(4999), x -> x.testify(0, 10, true));
        check.due("on the day behind", 3, bornLate(5000).testify(0, 10, true));
    }

    private void testifyRefuses() {
        check.promise(18, "- `suit`: the number of a suit");
        check.promise(18, "- `person`: the witness");
        check.promise(18, "Throws `IndexOutOfBoundsException` if there is no such suit or person");
        check.noIndex("without suits", () -> grown(), x -> x.testify(0, 2, true));
        int[] noSuits = {-1, 2, Integer.MIN_VALUE, Integer.MAX_VALUE};
        for (int s : noSuits) {
            check.noIndex("suit " + s, () -> seised(), x -> x.testify(s, 4, true));
        }
        int[] noPersons = {-1, 10, Integer.MIN_VALUE, Integer.MAX_VALUE};
        for (int p : noPersons) {
            check.noIndex("person " + p, () -> seised(), x -> x.testify(0, p, true));
        }
        check.promise(18, "Throws `IllegalStateException` if it is not SEISED, or the person cannot be a witness in it");
        check.noState("a void one", () -> seised(), x -> x.testify(1, 4, true));
        check.noState("one that is won", () -> won(0), x -> x.testify(0, 4, true));
        check.noState("one that is lost", () -> lost(), x -> x.testify(0, 4, false));
        check.noState("the plaintiff", () -> seised(), x -> x.testify(0, 0, true));
        check.noState("the defendant", () -> seised(), x -> x.testify(0, 1, false));
        check.noState("the dead", () -> withDead(seised(), 4), x -> x.testify(0, 4, true));
        check.noState("twice", () -> seised(), x -> x.testify(0, 2, true));
        check.noState("twice, against", () -> seised(), x -> x.testify(0, 3, false));
    }

    private void testifyRefusesInOrder() {
        check.says("if several exceptions apply, the one that its throws clause names first is thrown.");
        check.noIndex("person, then void", () -> seised(), x -> x.testify(1, 10, true));
        check.noIndex("person, then won", () -> won(0), x -> x.testify(0, -1, true));
        check.noIndex("suit, then the dead", () -> withDead(seised(), 4), x -> x.testify(2, 4, true));
    }

    // ---- judging

    private void weightsByFaiths() {
        check.says("The court's law of the day of judgment tells what they weigh: those of a faith, as it is on that day, "
                + "that it hears wholly 2, others 1, also if they have died since.");
        Milletcourt x = Check.empire(6);
        for (int i = 0; i < 24; i++) {
            Check.man(x, i / 4);
        }
        Check.passDays(x, 5000);
        for (int faith = 0; faith < 6; faith++) {
            int one = 4 * faith + 2;
            int rest = 4 * ((faith + 1) % 6);
            x.sue(rest, rest + 1, faith, 5);
            x.testify(faith, one, true);
            x.testify(faith, one + 1, true);
            x.decree(faith, 6, 1 << faith);
            check.due("two who are heard wholly, faith " + faith, true, x.wins(faith, faith));
            x.decree(faith, 6, 63 - (1 << faith));
            check.due("two who are not, faith " + faith, false, x.wins(faith, faith));
            x.decree(CROWNS, 6, 1 << faith);
            check.due("by the crown, faith " + faith, true, x.wins(faith, CROWNS));
        }
    }

    private void weightsOfTheDayOfJudgment() {
        check.says("The court's law of the day of judgment tells what they weigh: those of a faith, as it is on that day, "
                + "that it hears wholly 2, others 1, also if they have died since.");
        Milletcourt x = seised();
        x.decree(0, 6, 1);
        x.turn(2, 1, 8, 9);
        x.pass(29);
        check.due("the day ahead of another faith", true, x.wins(0, 0));
        x.pass(1);
        check.due("on its first day", false, x.wins(0, 0));
        x.decree(0, 6, 3);
        check.due("by a decree of the day", true, x.wins(0, 0));
        x.decree(0, 6, 0);
        check.due("by the last decree of the day", false, x.judge(0));
    }

    private void weightsOfTheDead() {
        check.says("The court's law of the day of judgment tells what they weigh: those of a faith, as it is on that day, "
                + "that it hears wholly 2, others 1, also if they have died since.");
        Milletcourt x = seised();
        x.dies(2);
        x.pass(1);
        x.dies(3);
        check.due("both dead", true, x.judge(0));
        check.due("both counted", 2, x.ofSuit(0, 2));
        Milletcourt y = seised();
        y.decree(0, 6, 1);
        y.turn(2, 1, 8, 9);
        y.pass(29);
        y.dies(2);
        y.pass(1);
        check.due("dead ahead of another faith", true, y.judge(0));
    }

    /** Whether the suit 0 is won before the crown, who hears the faith 0 wholly, with so many of the faith 0 or 1. */
    private static boolean winsWith(int wholeFor, int halfFor, int wholeAgainst, int halfAgainst) {
        Milletcourt x = Check.empire(2);
        for (int i = 0; i < 20; i++) {
            Check.man(x, i / 10);
        }
        Check.passDays(x, 5000);
        x.decree(CROWNS, 6, 1);
        x.rule(3, 3);
        x.sue(0, 1, CROWNS, 5);
        for (int i = 0; i < wholeFor + wholeAgainst; i++) {
            x.testify(0, 2 + i, i < wholeFor);
        }
        for (int i = 0; i < halfFor + halfAgainst; i++) {
            x.testify(0, 10 + i, i < halfFor);
        }
        boolean asked = x.wins(0, CROWNS);
        return asked == x.judge(0) && asked;
    }

    private void fourAtLeast() {
        check.says("The plaintiff wins, if those for weigh more than those against, and 4 at least.");
        check.due("nobody", false, winsWith(0, 0, 0, 0));
        check.due("1", false, winsWith(0, 1, 0, 0));
        check.due("3 of three", false, winsWith(0, 3, 0, 0));
        check.due("3 of two", false, winsWith(1, 1, 0, 0));
        check.due("4 of two", true, winsWith(2, 0, 0, 0));
        check.due("4 of three", true, winsWith(1, 2, 0, 0));
        check.due("4 of four", true, winsWith(0, 4, 0, 0));
        check.due("5", true, winsWith(2, 1, 0, 0));
        check.due("3 against nearly as many", false, winsWith(1, 1, 1, 0));
    }

    private void moreThanThoseAgainst() {
        check.says("The plaintiff wins, if those for weigh more than those against, and 4 at least.");
        check.due("4 and 3", true, winsWith(2, 0, 1, 1));
        check.due("4 and 4", false, winsWith(2, 0, 2, 0));
        check.due("4 and 4 of four", false, winsWith(2, 0, 0, 4));
        check.due("4 and 5", false, winsWith(2, 0, 2, 1));
        check.due("5 of five and 4 of two", true, winsWith(0, 5, 2, 0));
        check.due("8 and 7", true, winsWith(4, 0, 3, 1));
        check.due("8 and 8", false, winsWith(4, 0, 3, 2));
        check.due("nobody and 4", false, winsWith(0, 0, 2, 0));
    }

    private void wonOrLost() {
        check.says("Then it is WON, otherwise LOST.");
        check.promise(19, "Judges.");
        check.promise(19, "Returns whether it is WON.");
        Milletcourt x = seised();
        check.due("won", true, x.judge(0));
        check.due("WON", Milletcourt.WON, x.ofSuit(0, 0));
        check.due("all is owed", 400, x.ofSuit(0, 3));
        check.due("the day", 5000, x.ofSuit(0, 4));
        Milletcourt y = lost();
        check.due("LOST", Milletcourt.LOST, y.ofSuit(0, 0));
        check.due("nothing is owed", 0, y.ofSuit(0, 3));
        check.due("the day, too", 5000, y.ofSuit(0, 4));
        check.due("both may be dead", true, withDead(withDead(seised(), 0), 1).judge(0));
        Milletcourt z = Check.empire(1);
        Check.man(z, 0);
        Check.man(z, 0);
        z.sue(0, 1, 0, 5);
        check.due("lost on the day 0", false, z.judge(0));
        check.due("the day 0", 0, z.ofSuit(0, 4));
    }

    private void judgeRefuses() {
        check.promise(19, "- `suit`: the number of a suit");
        check.promise(19, "Throws `IndexOutOfBoundsException` if there is no such suit");
        check.noIndex("without suits", () -> grown(), x -> x.judge(0));
        int[] none = {-1, 2, Integer.MIN_VALUE, Integer.MAX_VALUE};
        for (int s : none) {
            check.noIndex("suit " + s, () -> seised(), x -> x.judge(s));
        }
        check.promise(19, "Throws `IllegalStateException` if it is not SEISED, or its court cannot judge it");
        check.noState("a void one", () -> seised(), x -> x.judge(1));
        check.noState("one that is won", () -> won(0), x -> x.judge(0));
        check.noState("one that is lost", () -> lost(), x -> x.judge(0));
        check.noState("another court's", () -> beforeAnotherCourt(), x -> x.judge(2));
    }

    private static Milletcourt beforeAnotherCourt() {
        Milletcourt x = seised();
        x.sue(2, 3, 1, 5);
        return x;
    }

    // ---- executing

    private void executedUntilAllIsPaid() {
        check.says("A suit that is WON can be executed, again and again, until all is paid:");
        check.promise(21, "Executes a suit.");
        check.promise(21, "Returns what is paid by that.");
        Milletcourt x = won(0);
        check.due("nothing", 0, x.execute(0));
        check.due("nothing again", 0, x.execute(0));
        x.goods(1, 399);
        check.due("all but one", 399, x.execute(0));
        check.due("one is owed", 1, x.ofSuit(0, 3));
        check.due("nothing once more", 0, x.execute(0));
        x.goods(1, 10);
        check.due("the last one", 1, x.execute(0));
        check.due("nothing is owed", 0, x.ofSuit(0, 3));
        check.due("WON as before", Milletcourt.WON, x.ofSuit(0, 0));
        check.noState("behind it", () -> won(400), y -> y.execute(0));
    }

    private void executedWithWhatThereIs() {
        check.says("what the defendant has, up to what is owed yet, perhaps nothing, goes to the plaintiff, if both live.");
        int[] has = {0, 1, 399, 400, 401};
        for (int goods : has) {
            Milletcourt x = won(0);
            if (goods > 0) {
                x.goods(1, goods);
            }
            int paid = Math.min(goods, 400);
            check.due("paid of " + goods, paid, x.execute(0));
            check.due("the plaintiff has of " + goods, paid, x.ofPerson(0, 0));
            check.due("the defendant keeps of " + goods, goods - paid, x.ofPerson(1, 0));
            check.due("owed yet of " + goods, 400 - paid, x.ofSuit(0, 3));
        }
    }

    private void executedIfBothLive() {
        check.says("what the defendant has, up to what is owed yet, perhaps nothing, goes to the plaintiff, if both live.");
        check.noState("a dead plaintiff", () -> withDead(wonWithMore(), 0), x -> x.execute(0));
        check.noState("a dead defendant", () -> withDead(wonWithMore(), 1), x -> x.execute(0));
        check.noState("both dead", () -> withDead(withDead(won(100), 1), 0), x -> x.execute(0));
        check.due("what is owed stays", 300, withDead(won(100), 1).ofSuit(0, 3));
    }

    /** There is more to execute. */
    private static Milletcourt wonWithMore() {
        Milletcourt x = won(100);
        x.goods(1, 50);
        return x;
    }

    private void executeRefuses() {
        check.promise(21, "- `suit`: the number of a suit");
        check.promise(21, "Throws `IndexOutOfBoundsException` if there is no such suit");
        check.noIndex("without suits", () -> grown(), x -> x.execute(0));
        int[] none = {-1, 2, Integer.MIN_VALUE, Integer.MAX_VALUE};
        for (int s : none) {
            check.noIndex("suit " + s, () -> won(100), x -> x.execute(s));
        }
        check.promise(21, "Throws `IllegalStateException` if it is not WON, nothing is owed any more, or one of both does not "
                + "live");
        check.noState("a seised one", () -> seised(), x -> x.execute(0));
        check.noState("a void one", () -> won(100), x -> x.execute(1));
        check.noState("a lost one", () -> lost(), x -> x.execute(0));
        check.noState("all is paid", () -> won(400), x -> x.execute(0));
        check.noState("lost by appeal", () -> lostByAppeal(100), x -> x.execute(0));
    }

    private static Milletcourt lostByAppeal(int paid) {
        Milletcourt x = crownIsDeaf(won(paid));
        x.appeal(0);
        return x;
    }

    // ---- appealing

    private void appealedWithinTheDays() {
        check.says("A suit that was judged by another court than the crown's can be appealed once, up to 60 days behind the "
                + "judgment:");
        check.due("on the day", true, won(0).appeal(0));
        check.due("60 days behind", true, daysOn(won(0), 60).appeal(0));
        check.noState("61 days behind", () -> daysOn(won(0), 61), x -> x.appeal(0));
        check.due("lost, 60 days behind", true, daysOn(lost(), 60).appeal(0));
        check.noState("lost, 61 days behind", () -> daysOn(lost(), 61), x -> x.appeal(0));
        Milletcourt x = daysOn(seised(), 2000);
        x.judge(0);
        check.due("days of the suit do not count", true, daysOn(x, 60).appeal(0));
    }

    private void appealedOnce() {
        check.says("A suit that was judged by another court than the crown's can be appealed once, up to 60 days behind the "
                + "judgment:");
        check.noState("won by appeal", () -> appealed(won(0)), x -> x.appeal(0));
        check.noState("lost by appeal", () -> lostByAppeal(0), x -> x.appeal(0));
        check.noState("won by appeal, a day on", () -> daysOn(appealed(lost()), 1), x -> x.appeal(0));
    }

    private static Milletcourt appealed(Milletcourt x) {
        x.appeal(0);
        return x;
    }

    private void appealedByTheCrownsLaw() {
        check.says("the crown judges it with the same witnesses by its own law of now.");
        check.promise(20, "Appeals to the crown.");
        check.promise(20, "Returns whether it is WON then.");
        Milletcourt x = crownIsDeaf(daysOn(won(0), 1));
        x.decree(0, 6, 63);
        check.due("by the crown's law of now", false, x.appeal(0));
        check.due("the day of it", 5001, x.ofSuit(0, 4));
        check.due("the court before which it was told", 0, x.ofSuit(0, 1));
        check.due("the same witnesses", 2, x.ofSuit(0, 2));
        Milletcourt y = won(0);
        y.decree(CROWNS, 6, 1);
        y.turn(2, 1, 8, 9);
        y.pass(30);
        check.due("by faiths of now", false, y.appeal(0));
        check.due("both may be dead", true, withDead(withDead(won(0), 0), 1).appeal(0));
    }

    private void appealedToLost() {
        check.says("If it is LOST by that and was WON, what was paid goes back, as far as the plaintiff has goods, if both "
                + "live; nothing is owed any more.");
        int[] paid = {0, 1, 399, 400};
        for (int p : paid) {
            Milletcourt x = crownIsDeaf(won(p));
            x.goods(0, 50);
            check.due("lost", false, x.appeal(0));
            check.due("the plaintiff, of " + p, 50, x.ofPerson(0, 0));
            check.due("the defendant, of " + p, p, x.ofPerson(1, 0));
            check.due("owed, of " + p, 0, x.ofSuit(0, 3));
            check.due("LOST, of " + p, Milletcourt.LOST, x.ofSuit(0, 0));
        }
    }

    private void appealedToLostWithoutGoods() {
        check.says("If it is LOST by that and was WON, what was paid goes back, as far as the plaintiff has goods, if both "
                + "live; nothing is owed any more.");
        int[] spent = {1, 99, 100};
        for (int s : spent) {
            Milletcourt x = won(100);
            x.sue(2, 0, 0, s);
            x.testify(2, 4, true);
            x.testify(2, 5, true);
            x.judge(2);
            x.execute(2);
            crownIsDeaf(x).appeal(0);
            check.due("the plaintiff who spent " + s, 0, x.ofPerson(0, 0));
            check.due("the defendant, of one who spent " + s, 100 - s, x.ofPerson(1, 0));
            x.goods(0, 100);
            check.due("nothing more is owed back", 100 - s, x.ofPerson(1, 0));
        }
    }

    private void appealedToLostWithTheDead() {
        check.says("If it is LOST by that and was WON, what was paid goes back, as far as the plaintiff has goods, if both "
                + "live; nothing is owed any more.");
        Milletcourt x = crownIsDeaf(withDead(won(100), 1));
        check.due("a dead defendant", false, x.appeal(0));
        check.due("gets nothing", 0, x.ofPerson(1, 0));
        check.due("the plaintiff keeps it", 100, x.ofPerson(0, 0));
        check.due("nothing is owed", 0, x.ofSuit(0, 3));
        Milletcourt y = crownIsDeaf(withDead(won(100), 0));
        check.due("a dead plaintiff", false, y.appeal(0));
        check.due("pays nothing", 0, y.ofPerson(1, 0));
        check.due("the crown keeps it", 100, y.treasury());
        check.due("nothing is owed, either", 0, y.ofSuit(0, 3));
    }

    private void appealedToWon() {
        check.says("If it is WON by that and was LOST, all of it is owed from then on.");
        Milletcourt x = lost();
        x.goods(1, 500);
        check.due("won", true, x.appeal(0));
        check.due("WON", Milletcourt.WON, x.ofSuit(0, 0));
        check.due("all of it", 400, x.ofSuit(0, 3));
        check.due("nothing is paid by that", 500, x.ofPerson(1, 0));
        check.due("it can be executed", 400, x.execute(0));
        check.due("owed by a dead one", 400, appealed(withDead(lost(), 1)).ofSuit(0, 3));
    }

    private void appealedToTheSame() {
        check.says("the crown judges it with the same witnesses by its own law of now.");
        Milletcourt x = appealed(won(100));
        check.due("what is owed yet", 300, x.ofSuit(0, 3));
        check.due("what was paid stays", 100, x.ofPerson(0, 0));
        check.due("all is paid, and stays so", 0, appealed(won(400)).ofSuit(0, 3));
        check.noState("nothing is owed", () -> appealed(won(400)), y -> y.execute(0));
        Milletcourt z = daysOn(crownIsDeaf(lost()), 1);
        check.due("lost again", false, z.appeal(0));
        check.due("nothing is owed", 0, z.ofSuit(0, 3));
        check.due("the day of it", 5001, z.ofSuit(0, 4));
    }

    private void appealRefuses() {
        check.promise(20, "- `suit`: the number of a suit");
        check.promise(20, "Throws `IndexOutOfBoundsException` if there is no such suit");
        check.noIndex("without suits", () -> grown(), x -> x.appeal(0));
        int[] none = {-1, 2, Integer.MIN_VALUE, Integer.MAX_VALUE};
        for (int s : none) {
            check.noIndex("suit " + s, () -> won(0), x -> x.appeal(s));
        }
        check.promise(20, "Throws `IllegalStateException` if it is neither WON nor LOST, was judged by the crown, was "
                + "appealed, or it is too late");
        check.noState("a seised one", () -> seised(), x -> x.appeal(0));
        check.noState("a seised one on the day 0", () -> suedOnDayNought(), x -> x.appeal(0));
        check.noState("a void one on the day 0", () -> suedOnDayNought(), x -> x.appeal(1));
        check.noState("a void one", () -> won(0), x -> x.appeal(1));
        check.noState("judged by the crown", () -> judgedByTheCrown(), x -> x.appeal(2));
    }

    private static Milletcourt suedOnDayNought() {
        Milletcourt x = Check.empire(1);
        Check.man(x, 0);
        Check.man(x, 0);
        x.sue(0, 1, 0, 5);
        x.sue(0, 1, 0, 5);
        return x;
    }

    private static Milletcourt judgedByTheCrown() {
        Milletcourt x = seised();
        x.sue(2, 9, CROWNS, 5);
        x.appear(2);
        x.judge(2);
        return x;
    }

    // ---- what is asked

    private void winsWhateverItIs() {
        check.promise(22, "Tells whether the plaintiff would win before a court today, with the witnesses as they are, "
                + "whatever court it is.");
        check.promise(22, "- `court`: the number of a community, or NONE for the crown");
        check.promise(22, "Returns whether it would be WON.");
        Milletcourt[] empires = {seised(), won(0), lost(), lostByAppeal(0), judgedByTheCrown()};
        boolean[] dueByCrown = {true, true, true, false, true};
        boolean[] dueByFirst = {true, true, false, true, true};
        for (int i = 0; i < empires.length; i++) {
            check.due("by the crown, " + i, dueByCrown[i], empires[i].wins(0, CROWNS));
            check.due("by its own court, " + i, dueByFirst[i], empires[i].wins(0, 0));
            check.due("by another court, " + i, true, empires[i].wins(0, 1));
            check.due("a void one, " + i, false, empires[i].wins(1, 0));
        }
        Milletcourt x = seised();
        x.recognise(0, false);
        x.decree(0, 6, 0);
        check.due("by one that is not recognised", false, x.wins(0, 0));
        check.due("it is seised as before", Milletcourt.SEISED, x.ofSuit(0, 0));
        check.due("by the law of today", false, daysOn(lost(), 2000).wins(0, 0));
    }

    private void winsRefuses() {
        check.promise(22, "- `suit`: the number of a suit");
        check.promise(22, "Throws `IndexOutOfBoundsException` if there is no such suit, or community, but for NONE");
        check.noIndex("without suits", () -> grown(), x -> x.wins(0, 0));
        int[] noSuits = {-1, 2, Integer.MIN_VALUE, Integer.MAX_VALUE};
        for (int s : noSuits) {
            check.noIndex("suit " + s, () -> seised(), x -> x.wins(s, 0));
        }
        int[] noCommunities = {-2, 2, Integer.MIN_VALUE, Integer.MAX_VALUE};
        for (int c : noCommunities) {
            check.noIndex("court " + c, () -> seised(), x -> x.wins(0, c));
        }
    }

    private void questionsAnswered() {
        check.promise(25, "Tells of a suit.");
        check.promise(25, "- `what`: 0 SEISED to LOST, 1 the court before which it was told, also behind an appeal, NONE for "
                + "the crown, 2 how many witnesses there are, 3 what is owed yet by it, 0 if it is not WON, 4 the day of the "
                + "judgment, by appeal if there was one, NONE without");
        check.promise(25, "Returns as told.");
        Milletcourt[] empires = {seised(), won(100), won(400), lost(), daysOn(won(100), 7), lostByAppeal(100)};
        int[][] due = {{0, 0, 2, 0, -1}, {2, 0, 2, 300, 5000}, {2, 0, 2, 0, 5000}, {3, 0, 2, 0, 5000}, {2, 0, 2, 300, 5000},
            {3, 0, 2, 0, 5000}};
        int[] dueOfVoid = {1, 0, 0, 0, -1};
        for (int i = 0; i < empires.length; i++) {
            for (int what = 0; what < 5; what++) {
                check.due("of " + i + ", " + what, due[i][what], empires[i].ofSuit(0, what));
                check.due("of a void one, " + i + ", " + what, dueOfVoid[what], empires[i].ofSuit(1, what));
            }
        }
        check.due("the crown's", CROWNS, judgedByTheCrown().ofSuit(2, 1));
        check.due("the day of the appeal", 5007, appealed(daysOn(won(0), 7)).ofSuit(0, 4));
    }

    private void questionsRefused() {
        check.promise(25, "- `suit`: the number of a suit");
        check.promise(25, "Throws `IndexOutOfBoundsException` if there is no such suit");
        check.noIndex("without suits", () -> grown(), x -> x.ofSuit(0, 0));
        int[] none = {-1, 2, Integer.MIN_VALUE, Integer.MAX_VALUE};
        for (int s : none) {
            check.noIndex("suit " + s, () -> seised(), x -> x.ofSuit(s, 0));
        }
        check.promise(25, "Throws `IllegalArgumentException` if what is out of range");
        int[] noWhats = {-1, 5, Integer.MIN_VALUE, Integer.MAX_VALUE};
        for (int what : noWhats) {
            check.noArgument("what " + what, () -> seised(), x -> x.ofSuit(0, what));
        }
        check.says("if several exceptions apply, the one that its throws clause names first is thrown.");
        check.noIndex("suit, then what", () -> seised(), x -> x.ofSuit(2, 5));
    }
}

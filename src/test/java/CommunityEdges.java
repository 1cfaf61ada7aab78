/** The edges of communities, laws, rules and courts, by the words of the document: promises 2 to 7. */
final class CommunityEdges {
    private static final int[] LOWEST = {0, 0, 1, 0, 0, 0, 0};
    private static final int[] HIGHEST = {2, 3, 4, 100, 1, 1, 63};
    private static final int[] AT_FIRST = {0, 2, 1, 25, 1, 0, 63};
    private static final String[] NUMBERS = {
        "0 shares, EQUAL, DOUBLE or FIRST;",
        "1 divorce, HUSBAND, EITHER, BOTH or NEVER;",
        "2 how many wives a husband has at most, 1 to 4;",
        "3 the widow's part in hundredths, 0 to 100;",
        "4 whether it takes mixed marriages, 1 or 0;",
        "5 whether it bars those of another faith from estates, 1 or 0;",
        "6 the set of communities of which it hears witnesses wholly, as bits, that of the community 0 lowest.",
    };

    private final Check check;

    CommunityEdges(Check check) {
        this.check = check;
    }

    void all() {
        communitiesAreNumbered();
        sixCommunities();
        crownIsTold();
        recognisedWhenTakenUp();
        recognisedNoMore();
        recognisedAgain();
        recognitionsOfOneDay();
        recogniseAnswers();
        recogniseRefuses();
        lawsAtFirst();
        numbersOfLaws();
        lawsAreApart();
        decreesFromTheirDayOn();
        decreesOfOneDay();
        decreeAnswers();
        decreeRefusesCommunities();
        decreeRefusesNumbers();
        hundredDecrees();
        whatCountsAsADecree();
        decreeRefusesInOrder();
        rulesAtFirst();
        rulesFromTheirDayOn();
        rulesOfOneDay();
        ruleAnswers();
        ruleRefusesNumbers();
        fortyRules();
        ruleRefusesInOrder();
        lawAnswers();
        lawDays();
        lawRefuses();
        lawRefusesInOrder();
        mattersOfTwo();
        courtsByRules();
        courtsByFaithsOfTheDay();
        courtsThatAreNotRecognised();
        courtDays();
        courtRefuses();
        courtRefusesInOrder();
    }

    /** On the day 7: two communities, the man 0 of the first one, the woman 1 of the second one. */
    private static Milletcourt told() {
        Milletcourt x = Check.empire(2);
        Check.man(x, 0);
        Check.woman(x, 1);
        x.decree(0, 3, 40);
        x.rule(2, 2);
        x.pass(7);
        x.decree(1, 3, 41);
        x.recognise(1, false);
        return x;
    }

    /** The man 0 and the woman 1, of unlike faiths, so many days behind their birth. */
    private static Milletcourt daysOn(int days) {
        Milletcourt x = Check.empire(2);
        Check.man(x, 0);
        Check.woman(x, 1);
        x.pass(days);
        return x;
    }

    private static Milletcourt toldDecrees(int count) {
        Milletcourt x = Check.empire(1);
        for (int i = 0; i < count; i++) {
            x.decree(0, 3, i);
        }
        return x;
    }

    private static Milletcourt toldRules(int count) {
        Milletcourt x = Check.empire(1);
        for (int i = 0; i < count; i++) {
            x.rule(i % 4, i % 3);
        }
        return x;
    }

    // ---- communities

    private void communitiesAreNumbered() {
        check.says("Communities are numbered from 0, at most 6;");
        check.promise(2, "Takes a community up.");
        check.promise(2, "Returns its number.");
        Milletcourt x = new Milletcourt();
        for (int i = 0; i < 6; i++) {
            int next = i;
            check.noIndex("the law of a community before", () -> Check.empire(next), y -> y.law(next, 0, 0));
            check.due("the number", i, x.community());
            check.due("its law", 63, x.law(i, 6, 0));
        }
    }

    private void sixCommunities() {
        check.promise(2, "Throws `IllegalStateException` if there are 6");
        check.due("the sixth one", 5, Check.empire(5).community());
        check.noState("a seventh one", () -> Check.empire(6), x -> x.community());
    }

    private void crownIsTold() {
        check.says("the crown is told as NONE.");
        check.due("a decree of the crown, without communities", 25, new Milletcourt().decree(-1, 3, 1));
        check.due("the crown's law, without communities", 25, new Milletcourt().law(-1, 3, 0));
        Milletcourt x = told();
        x.decree(-1, 3, 77);
        check.due("the crown's own", 77, x.law(-1, 3, 7));
        check.due("a community's", 40, x.law(0, 3, 7));
    }

    // ---- recognitions

    private void recognisedWhenTakenUp() {
        check.says("A community is recognised from the day on which it is taken up;");
        Milletcourt x = new Milletcourt();
        x.pass(5);
        x.community();
        int man = Check.man(x, 0);
        check.due("the court of that day", 0, x.court(2, man, man, 5));
        check.due("recognised on that day", true, x.recognise(0, true));
        x.pass(1);
        check.due("the court a day on", 0, x.court(2, man, man, 6));
    }

    private void recognisedNoMore() {
        check.says("it may be recognised no more, or again, from a day on likewise");
        Milletcourt x = Check.empire(1);
        int man = Check.man(x, 0);
        x.pass(10);
        x.recognise(0, false);
        check.due("that day", -1, x.court(2, man, man, 10));
        x.pass(1);
        check.due("the day ahead", 0, x.court(2, man, man, 9));
        check.due("that day, asked later", -1, x.court(2, man, man, 10));
        check.due("the day behind", -1, x.court(2, man, man, 11));
        check.due("the day 0", 0, x.court(2, man, man, 0));
    }

    private void recognisedAgain() {
        check.says("it may be recognised no more, or again, from a day on likewise");
        Milletcourt x = Check.empire(1);
        int man = Check.man(x, 0);
        x.recognise(0, false);
        x.pass(20);
        x.recognise(0, true);
        x.pass(1);
        check.due("the day 0", -1, x.court(2, man, man, 0));
        check.due("the day ahead", -1, x.court(2, man, man, 19));
        check.due("that day", 0, x.court(2, man, man, 20));
        check.due("the day behind", 0, x.court(2, man, man, 21));
    }

    private void recognitionsOfOneDay() {
        check.says("(of several of one day the last one counts, for the whole day).");
        Milletcourt x = Check.empire(1);
        int man = Check.man(x, 0);
        x.recognise(0, false);
        check.due("on the day of taking it up", -1, x.court(2, man, man, 0));
        x.recognise(0, true);
        check.due("of two, the second", 0, x.court(2, man, man, 0));
        x.pass(3);
        x.recognise(0, false);
        x.recognise(0, true);
        x.recognise(0, false);
        check.due("of three, the third", -1, x.court(2, man, man, 3));
        x.recognise(0, true);
        x.pass(1);
        check.due("of four, the fourth, a day on", 0, x.court(2, man, man, 3));
        check.due("the day behind", 0, x.court(2, man, man, 4));
    }

    private void recogniseAnswers() {
        check.promise(3, "Tells whether a community is recognised, from today on.");
        check.promise(3, "- `isOn`: whether it is");
        check.promise(3, "Returns whether it was today.");
        Milletcourt x = Check.empire(2);
        check.due("on the day of taking it up", true, x.recognise(0, true));
        check.due("told on", true, x.recognise(0, false));
        check.due("told off, the same day", false, x.recognise(0, true));
        check.due("told on again, the same day", true, x.recognise(0, false));
        x.pass(1);
        check.due("told off the day before", false, x.recognise(0, false));
        check.due("the other one", true, x.recognise(1, true));
    }

    private void recogniseRefuses() {
        check.promise(3, "- `community`: the number of a community");
        check.promise(3, "Throws `IndexOutOfBoundsException` if there is no such community");
        check.due("the lowest", true, told().recognise(0, false));
        check.due("the highest", false, told().recognise(1, true));
        check.noIndex("without communities", () -> new Milletcourt(), x -> x.recognise(0, false));
        int[] none = {-1, 2, Integer.MIN_VALUE, Integer.MAX_VALUE};
        for (int c : none) {
            check.noIndex("community " + c, () -> told(), x -> x.recognise(c, false));
            check.noIndex("community " + c + ", on", () -> told(), x -> x.recognise(c, true));
        }
    }

    // ---- decrees

    private void lawsAtFirst() {
        check.says("They are EQUAL, BOTH, 1, 25, 1, 0 and 63 at first.");
        Milletcourt x = new Milletcourt();
        x.pass(3);
        x.community();
        for (int what = 0; what < 7; what++) {
            check.due("the crown's " + what, AT_FIRST[what], x.law(-1, what, 0));
            check.due("a community's " + what, AT_FIRST[what], x.law(0, what, 3));
            check.due("ahead of taking it up " + what, AT_FIRST[what], x.law(0, what, 0));
        }
    }

    private void numbersOfLaws() {
        check.promise(4, "- `number`: EQUAL to FIRST, HUSBAND to NEVER, 1 to 4, 0 to 100, 0 or 1, 0 or 1, 0 to 63, by what");
        for (int what = 0; what < 7; what++) {
            int w = what;
            check.says(NUMBERS[w]);
            Milletcourt x = Check.empire(1);
            x.decree(0, w, LOWEST[w]);
            check.due("the lowest", LOWEST[w], x.law(0, w, 0));
            x.decree(-1, w, HIGHEST[w]);
            check.due("the highest", HIGHEST[w], x.law(-1, w, 0));
            int[] beyond = {LOWEST[w] - 1, HIGHEST[w] + 1, Integer.MIN_VALUE, Integer.MAX_VALUE};
            for (int number : beyond) {
                check.noArgument(number + " for " + w, () -> told(), y -> y.decree(0, w, number));
                check.noArgument(number + " for the crown's " + w, () -> told(), y -> y.decree(-1, w, number));
            }
        }
    }

    private void lawsAreApart() {
        check.says("Each community, and the crown, has a law, of these numbers:");
        Milletcourt x = Check.empire(6);
        for (int c = -1; c < 6; c++) {
            x.decree(c, 3, 50 + c);
        }
        for (int c = -1; c < 6; c++) {
            check.due("the part by " + c, 50 + c, x.law(c, 3, 0));
            check.due("another number of " + c, 63, x.law(c, 6, 0));
        }
    }

    private void decreesFromTheirDayOn() {
        check.says("A decree tells one of these numbers anew, from its day on,");
        check.promise(4, "Decrees, from today on.");
        Milletcourt x = Check.empire(1);
        x.pass(4);
        x.decree(0, 3, 60);
        x.pass(4);
        x.decree(0, 3, 70);
        x.pass(1);
        int[] due = {25, 25, 25, 25, 60, 60, 60, 60, 70, 70};
        for (int day = 0; day < due.length; day++) {
            check.due("the part on day " + day, due[day], x.law(0, 3, day));
        }
        Milletcourt y = daysOn(1);
        y.decree(0, 3, 60);
        check.due("the day 0, ahead of the first decree", 25, y.law(0, 3, 0));
        check.due("the day 1, of the first decree", 60, y.law(0, 3, 1));
    }

    private void decreesOfOneDay() {
        check.says("of several of one day the last one counts.");
        Milletcourt x = Check.empire(1);
        x.decree(0, 3, 60);
        x.decree(0, 3, 61);
        check.due("on the day 0", 61, x.law(0, 3, 0));
        x.pass(1);
        x.decree(0, 3, 62);
        x.decree(0, 3, 63);
        x.decree(0, 3, 64);
        check.due("the day ahead", 61, x.law(0, 3, 0));
        check.due("of three", 64, x.law(0, 3, 1));
        x.decree(0, 3, 61);
        check.due("back to that of the day ahead", 61, x.law(0, 3, 1));
    }

    private void decreeAnswers() {
        check.promise(4, "Returns the number before, of today.");
        Milletcourt x = Check.empire(1);
        for (int what = 0; what < 7; what++) {
            check.due("that at first of " + what, AT_FIRST[what], x.decree(0, what, LOWEST[what]));
            check.due("that of today of " + what, LOWEST[what], x.decree(0, what, HIGHEST[what]));
        }
        x.pass(1);
        for (int what = 0; what < 7; what++) {
            check.due("that of yesterday of " + what, HIGHEST[what], x.decree(0, what, HIGHEST[what]));
        }
    }

    private void decreeRefusesCommunities() {
        check.promise(4, "- `community`: the number of a community, or NONE for the crown");
        check.promise(4, "Throws `IndexOutOfBoundsException` if there is no such community, but for NONE");
        check.due("the highest", 41, told().decree(1, 3, 5));
        check.due("the lowest", 40, told().decree(0, 3, 5));
        check.due("NONE", 25, told().decree(-1, 3, 5));
        check.noIndex("without communities", () -> new Milletcourt(), x -> x.decree(0, 3, 5));
        int[] none = {-2, 2, Integer.MIN_VALUE, Integer.MAX_VALUE};
        for (int c : none) {
            check.noIndex("community " + c, () -> told(), x -> x.decree(c, 3, 5));
        }
    }

    private void decreeRefusesNumbers() {
        check.promise(4, "- `what`: 0 to 6");
        check.promise(4, "Throws `IllegalArgumentException` if what or number is out of range");
        check.due("the lowest", 0, told().decree(0, 0, 1));
        check.due("the highest", 63, told().decree(0, 6, 1));
        int[] none = {-1, 7, Integer.MIN_VALUE, Integer.MAX_VALUE};
        for (int what : none) {
            check.noArgument("what " + what, () -> told(), x -> x.decree(0, what, 1));
            check.noArgument("what " + what + " of the crown", () -> told(), x -> x.decree(-1, what, 1));
        }
    }

    private void hundredDecrees() {
        check.promise(4, "Throws `IllegalStateException` if there were 100 decrees");
        check.due("the hundredth one", 98, toldDecrees(99).decree(0, 3, 100));
        check.noState("the one behind it", () -> toldDecrees(100), x -> x.decree(0, 3, 1));
        check.noState("one of another number", () -> toldDecrees(100), x -> x.decree(0, 0, 1));
        check.noState("one of the crown", () -> toldDecrees(100), x -> x.decree(-1, 3, 1));
        Milletcourt x = toldDecrees(100);
        x.pass(1);
        check.noState("one of another day", () -> x.decree(0, 3, 1));
    }

    private void whatCountsAsADecree() {
        check.promise(4, "Throws `IllegalStateException` if there were 100 decrees");
        Milletcourt x = Check.empire(1);
        for (int i = 0; i < 100; i++) {
            x.decree(i % 2 - 1, i % 7, AT_FIRST[i % 7]);
            check.noArgument("what is refused does not count", () -> x.decree(0, 0, 3));
            check.noIndex("nor this", () -> x.decree(1, 0, 0));
        }
        check.noState("those that alter nothing count", () -> x.decree(0, 0, 0));
    }

    private void decreeRefusesInOrder() {
        check.says("if several exceptions apply, the one that its throws clause names first is thrown.");
        check.noIndex("community, then what", () -> told(), x -> x.decree(2, 7, 0));
        check.noIndex("community, then number", () -> told(), x -> x.decree(-2, 0, 3));
        check.noIndex("community, then room", () -> toldDecrees(100), x -> x.decree(1, 0, 0));
        check.noIndex("all of them", () -> toldDecrees(100), x -> x.decree(1, 0, 3));
        check.noArgument("what, then room", () -> toldDecrees(100), x -> x.decree(0, 7, 0));
        check.noArgument("number, then room", () -> toldDecrees(100), x -> x.decree(0, 0, 3));
    }

    // ---- rules

    private void rulesAtFirst() {
        check.says("At first the rules are ONE, ONE, ONE and OTHER.");
        Milletcourt x = Check.empire(2);
        Check.man(x, 0);
        Check.woman(x, 1);
        int[] due = {0, 0, 0, 1};
        for (int matter = 0; matter < 4; matter++) {
            check.due("the court of " + matter, due[matter], x.court(matter, 0, 1, 0));
            check.due("the rule of " + matter, due[matter], x.rule(matter, 3));
        }
    }

    private void rulesFromTheirDayOn() {
        check.says("A matter has a rule, told anew from a day on likewise:");
        check.promise(5, "Tells the rule of a matter, from today on.");
        Milletcourt x = daysOn(3);
        x.rule(0, 1);
        x.pass(3);
        x.rule(0, 3);
        x.pass(1);
        int[] due = {0, 0, 0, 1, 1, 1, -1, -1};
        for (int day = 0; day < due.length; day++) {
            check.due("the court on day " + day, due[day], x.court(0, 0, 1, day));
            check.due("another matter's on day " + day, 0, x.court(1, 0, 1, day));
        }
        Milletcourt y = daysOn(1);
        y.rule(0, 1);
        check.due("the day 0, ahead of the first rule", 0, y.court(0, 0, 1, 0));
        check.due("the day 1, of the first rule", 1, y.court(0, 0, 1, 1));
    }

    private void rulesOfOneDay() {
        check.says("A matter has a rule, told anew from a day on likewise:");
        Milletcourt x = Check.empire(2);
        Check.man(x, 0);
        Check.woman(x, 1);
        x.rule(0, 3);
        x.rule(0, 1);
        check.due("on the day 0, the last one", 1, x.court(0, 0, 1, 0));
        x.pass(1);
        x.rule(0, 0);
        x.rule(0, 3);
        check.due("on the day 1, the last one", -1, x.court(0, 0, 1, 1));
        check.due("the day ahead", 1, x.court(0, 0, 1, 0));
    }

    private void ruleAnswers() {
        check.promise(5, "Returns the one before, of today.");
        Milletcourt x = new Milletcourt();
        check.due("that at first", 1, x.rule(3, 2));
        check.due("that of today", 2, x.rule(3, 0));
        x.pass(1);
        check.due("that of yesterday", 0, x.rule(3, 3));
        check.due("another matter's", 0, x.rule(2, 3));
    }

    private void ruleRefusesNumbers() {
        check.promise(5, "- `matter`: MARRIAGE to DEBT");
        check.promise(5, "- `rule`: ONE to CROWN");
        check.promise(5, "Throws `IllegalArgumentException` if matter or rule is out of range");
        check.due("the lowest of both", 0, told().rule(0, 0));
        check.due("the highest of both", 1, told().rule(3, 3));
        int[] none = {-1, 4, Integer.MIN_VALUE, Integer.MAX_VALUE};
        for (int number : none) {
            check.noArgument("matter " + number, () -> told(), x -> x.rule(number, 3));
            check.noArgument("rule " + number, () -> told(), x -> x.rule(0, number));
        }
    }

    private void fortyRules() {
        check.promise(5, "Throws `IllegalStateException` if there were 40");
        check.due("the fortieth one", 2, toldRules(39).rule(3, 3));
        check.noState("the one behind it", () -> toldRules(40), x -> x.rule(3, 3));
        check.noState("one of another matter", () -> toldRules(40), x -> x.rule(0, 3));
        Milletcourt x = new Milletcourt();
        for (int i = 0; i < 40; i++) {
            x.rule(0, 0);
            check.noArgument("what is refused does not count", () -> x.rule(0, 4));
        }
        x.pass(1);
        check.noState("those that alter nothing count, and days do not help", () -> x.rule(1, 0));
    }

    private void ruleRefusesInOrder() {
        check.says("if several exceptions apply, the one that its throws clause names first is thrown.");
        check.noArgument("matter, then room", () -> toldRules(40), x -> x.rule(4, 0));
        check.noArgument("rule, then room", () -> toldRules(40), x -> x.rule(0, -1));
    }

    // ---- laws that are asked

    private void lawAnswers() {
        check.promise(6, "Returns a number of a law on a day.");
        check.promise(6, "Returns the number.");
        Milletcourt x = told();
        check.due("a community's", 40, x.law(0, 3, 7));
        check.due("the other one's", 41, x.law(1, 3, 7));
        check.due("the crown's", 25, x.law(-1, 3, 7));
    }

    private void lawDays() {
        check.promise(6, "- `day`: 0 to today");
        check.due("the day 0, on the day 0", 25, new Milletcourt().law(-1, 3, 0));
        check.noArgument("the day 1, on the day 0", () -> new Milletcourt(), x -> x.law(-1, 3, 1));
        check.noArgument("the day -1, on the day 0", () -> new Milletcourt(), x -> x.law(-1, 3, -1));
        check.due("the lowest day", 25, told().law(1, 3, 0));
        check.due("yesterday", 25, told().law(1, 3, 6));
        check.due("today", 41, told().law(1, 3, 7));
        int[] none = {-1, 8, Integer.MIN_VALUE, Integer.MAX_VALUE};
        for (int day : none) {
            check.noArgument("day " + day, () -> told(), x -> x.law(1, 3, day));
        }
    }

    private void lawRefuses() {
        check.promise(6, "- `community`: the number of a community, or NONE for the crown");
        check.promise(6, "- `what`: 0 to 6");
        check.promise(6, "Throws `IndexOutOfBoundsException` if there is no such community, but for NONE");
        int[] noCommunities = {-2, 2, Integer.MIN_VALUE, Integer.MAX_VALUE};
        for (int c : noCommunities) {
            check.noIndex("community " + c, () -> told(), x -> x.law(c, 0, 0));
        }
        check.noIndex("without communities", () -> new Milletcourt(), x -> x.law(0, 0, 0));
        check.promise(6, "Throws `IllegalArgumentException` if what or day is out of range");
        int[] none = {-1, 7, Integer.MIN_VALUE, Integer.MAX_VALUE};
        for (int what : none) {
            check.noArgument("what " + what, () -> told(), x -> x.law(0, what, 0));
        }
    }

    private void lawRefusesInOrder() {
        check.says("if several exceptions apply, the one that its throws clause names first is thrown.");
        check.noIndex("community, then what", () -> told(), x -> x.law(2, 7, 0));
        check.noIndex("community, then day", () -> told(), x -> x.law(-2, 0, 8));
    }

    // ---- courts

    private void mattersOfTwo() {
        check.says("There are the matters MARRIAGE, DIVORCE, ESTATE and DEBT, each of two persons.");
        check.promise(7, "Returns whose court it is in a matter on a day.");
        check.promise(7, "Returns the community; NONE for the crown.");
        for (int matter = 0; matter < 4; matter++) {
            Milletcourt x = Check.empire(2);
            Check.man(x, 0);
            Check.woman(x, 1);
            x.rule(matter, 1);
            check.due("by OTHER, of " + matter, 1, x.court(matter, 0, 1, 0));
            check.due("by OTHER, the other way, of " + matter, 0, x.court(matter, 1, 0, 0));
            x.rule(matter, 3);
            check.due("by CROWN, of " + matter, -1, x.court(matter, 0, 1, 0));
        }
    }

    private void courtsByRules() {
        check.says("its court is that of the faith of the first person by ONE, of the second one by OTHER, of both by "
                + "ALIKE, if these are alike, and the crown's otherwise, and always by CROWN;");
        int[][] due = {{0, 1, 0}, {1, 0, 0}, {-1, -1, 0}, {-1, -1, -1}};
        for (int rule = 0; rule < 4; rule++) {
            Milletcourt x = Check.empire(2);
            Check.man(x, 0);
            Check.woman(x, 1);
            Check.woman(x, 0);
            x.rule(0, rule);
            check.due("unlike ones by " + rule, due[rule][0], x.court(0, 0, 1, 0));
            check.due("the other way by " + rule, due[rule][1], x.court(0, 1, 0, 0));
            check.due("alike ones by " + rule, due[rule][2], x.court(0, 0, 2, 0));
            check.due("one for both by " + rule, due[rule][2], x.court(0, 2, 2, 0));
        }
    }

    private void courtsByFaithsOfTheDay() {
        check.says("faiths are those of the day.");
        Milletcourt x = Check.empire(2);
        Check.man(x, 0);
        Check.man(x, 1);
        Check.man(x, 1);
        Check.passDays(x, 5000);
        x.rule(0, 2);
        Check.take(x, 0, 1, 1, 2);
        x.pass(1);
        check.due("the day ahead", -1, x.court(0, 0, 1, 5029));
        check.due("that day", 1, x.court(0, 0, 1, 5030));
        check.due("the day behind", 1, x.court(0, 0, 1, 5031));
    }

    private void courtsThatAreNotRecognised() {
        check.says("If that community is not recognised on that day, it is the crown's.");
        for (int rule = 0; rule < 3; rule++) {
            Milletcourt x = Check.empire(2);
            Check.man(x, 0);
            Check.woman(x, 0);
            x.rule(0, rule);
            x.pass(1);
            x.recognise(1, false);
            check.due("another one that is not, by " + rule, 0, x.court(0, 0, 1, 1));
            x.recognise(0, false);
            check.due("the one that is not, by " + rule, -1, x.court(0, 0, 1, 1));
            check.due("the day ahead, by " + rule, 0, x.court(0, 0, 1, 0));
        }
    }

    /** The man 0 is born on the day 0, the man 1 on the day 3; it is the day 5. */
    private static Milletcourt bornApart() {
        Milletcourt x = Check.empire(1);
        Check.man(x, 0);
        x.pass(3);
        Check.man(x, 0);
        x.pass(2);
        return x;
    }

    private void courtDays() {
        check.promise(7, "- `day`: from the day on which both were born, to today");
        Milletcourt x = bornApart();
        check.due("the day on which both were born", 0, x.court(0, 0, 1, 3));
        check.due("the other way", 0, x.court(0, 1, 0, 3));
        check.due("today", 0, x.court(0, 1, 0, 5));
        check.due("the day 0, of one alone", 0, x.court(0, 0, 0, 0));
        check.noArgument("ahead of the second birth", () -> bornApart(), y -> y.court(0, 0, 1, 2));
        check.noArgument("ahead of the second birth, the other way", () -> bornApart(), y -> y.court(0, 1, 0, 2));
        check.noArgument("ahead of its birth, of one alone", () -> bornApart(), y -> y.court(0, 1, 1, 2));
        int[] none = {-1, 6, Integer.MIN_VALUE, Integer.MAX_VALUE};
        for (int day : none) {
            check.noArgument("day " + day, () -> bornApart(), y -> y.court(0, 0, 0, day));
        }
    }

    private void courtRefuses() {
        check.promise(7, "- `one`: the first person");
        check.promise(7, "- `other`: the second one");
        check.promise(7, "Throws `IndexOutOfBoundsException` if there is no such person, of either");
        check.noIndex("without persons", () -> Check.empire(1), x -> x.court(0, 0, 0, 0));
        int[] noPersons = {-1, 2, Integer.MIN_VALUE, Integer.MAX_VALUE};
        for (int p : noPersons) {
            check.noIndex("first person " + p, () -> bornApart(), x -> x.court(0, p, 0, 5));
            check.noIndex("second person " + p, () -> bornApart(), x -> x.court(0, 0, p, 5));
        }
        check.promise(7, "- `matter`: MARRIAGE to DEBT");
        check.promise(7, "Throws `IllegalArgumentException` if matter or day is out of range");
        int[] noMatters = {-1, 4, Integer.MIN_VALUE, Integer.MAX_VALUE};
        for (int matter : noMatters) {
            check.noArgument("matter " + matter, () -> bornApart(), x -> x.court(matter, 0, 0, 5));
        }
    }

    private void courtRefusesInOrder() {
        check.says("if several exceptions apply, the one that its throws clause names first is thrown.");
        check.noIndex("first person, then matter", () -> bornApart(), x -> x.court(4, 2, 0, 5));
        check.noIndex("second person, then matter", () -> bornApart(), x -> x.court(4, 0, 2, 5));
        check.noIndex("second person, then day", () -> bornApart(), x -> x.court(0, 0, -1, 6));
    }
}

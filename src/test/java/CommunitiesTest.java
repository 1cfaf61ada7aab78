/** Promises 2 to 7: community, recognise, decree, rule, law, court. */
public final class CommunitiesTest {
    private static final Check CHECK = new Check("CommunitiesTest");

    public static void main(String[] args) {
        communities();
        recognitions();
        decrees();
        rules();
        laws();
        courts();
        courtsByDays();
        CHECK.end();
    }

    private static void communities() {
        Milletcourt x = new Milletcourt();
        for (int i = 0; i < 6; i++) {
            CHECK.due("community " + i, i, x.community());
        }
        CHECK.noState("a seventh community", () -> x.community());
        CHECK.due("the sixth one's law", 63, x.law(5, 6, 0));
        CHECK.noIndex("the seventh one's law", () -> x.law(6, 6, 0));
    }

    private static void recognitions() {
        Milletcourt x = Check.empire(2);
        int man = Check.man(x, 1);
        x.pass(10);
        CHECK.due("recognised from the start", true, x.recognise(1, false));
        CHECK.due("no more, the same day", false, x.recognise(1, false));
        CHECK.due("the court of day 10", -1, x.court(2, man, man, 10));
        CHECK.due("again, the same day", false, x.recognise(1, true));
        CHECK.due("the court of day 10 by the last one", 1, x.court(2, man, man, 10));
        CHECK.due("before the last one of day 10", true, x.recognise(1, false));
        x.pass(5);
        CHECK.due("no more, days on", false, x.recognise(1, true));
        CHECK.due("the court of day 9", 1, x.court(2, man, man, 9));
        CHECK.due("the whole day 10", -1, x.court(2, man, man, 10));
        CHECK.due("the day 14", -1, x.court(2, man, man, 14));
        CHECK.due("the day 15", 1, x.court(2, man, man, 15));
        CHECK.due("the other community", true, x.recognise(0, true));
    }

    private static void decrees() {
        Milletcourt x = Check.empire(2);
        x.pass(3);
        CHECK.due("the crown's part before", 25, x.decree(-1, 3, 40));
        CHECK.due("the same day anew", 40, x.decree(-1, 3, 41));
        CHECK.due("the community's part", 25, x.decree(1, 3, 7));
        x.pass(4);
        CHECK.due("days on", 41, x.decree(-1, 3, 50));
        int[] due = {25, 25, 25, 41, 41, 41, 41, 50};
        for (int day = 0; day < due.length; day++) {
            CHECK.due("the crown's part on day " + day, due[day], x.law(-1, 3, day));
        }
        CHECK.due("the community 1", 7, x.law(1, 3, 7));
        CHECK.due("the community 0", 25, x.law(0, 3, 7));
        CHECK.due("another number", 63, x.law(-1, 6, 7));
    }

    private static void rules() {
        Milletcourt x = Check.empire(1);
        int[] atFirst = {0, 0, 0, 1};
        for (int matter = 0; matter < 4; matter++) {
            CHECK.due("the rule at first of " + matter, atFirst[matter], x.rule(matter, 3));
            CHECK.due("the same day", 3, x.rule(matter, 2));
        }
        x.pass(1);
        CHECK.due("a day on", 2, x.rule(0, 1));
    }

    private static void laws() {
        Milletcourt x = Check.empire(1);
        x.pass(5);
        CHECK.due("EQUAL", 0, x.law(0, 0, 5));
        CHECK.due("BOTH", 2, x.law(0, 1, 5));
        CHECK.due("one wife", 1, x.law(0, 2, 5));
        CHECK.due("a quarter", 25, x.law(0, 3, 5));
        CHECK.due("mixed ones", 1, x.law(0, 4, 5));
        CHECK.due("no bar", 0, x.law(0, 5, 0));
        CHECK.due("all are heard", 63, x.law(0, 6, 0));
    }

    private static void courts() {
        Milletcourt x = Check.empire(2);
        int one = Check.man(x, 0);
        int other = Check.woman(x, 1);
        CHECK.due("MARRIAGE by ONE", 0, x.court(0, one, other, 0));
        CHECK.due("DIVORCE by ONE", 1, x.court(1, other, one, 0));
        CHECK.due("ESTATE by ONE", 0, x.court(2, one, other, 0));
        CHECK.due("DEBT by OTHER", 1, x.court(3, one, other, 0));
        x.rule(0, 2);
        CHECK.due("by ALIKE, unlike", -1, x.court(0, one, other, 0));
        CHECK.due("by ALIKE, alike", 1, x.court(0, other, other, 0));
        x.rule(0, 3);
        CHECK.due("by CROWN", -1, x.court(0, other, other, 0));
        x.rule(0, 1);
        CHECK.due("by OTHER", 1, x.court(0, one, other, 0));
        x.recognise(1, false);
        CHECK.due("not recognised", -1, x.court(0, one, other, 0));
        CHECK.due("the one that is", 0, x.court(0, other, one, 0));
    }

    private static void courtsByDays() {
        Milletcourt x = Check.empire(2);
        int man = Check.man(x, 0);
        Check.woman(x, 1);
        Check.man(x, 1);
        Check.passDays(x, 5000);
        x.rule(3, 0);
        Check.take(x, man, 1, 1, 2);
        x.rule(3, 3);
        x.pass(1);
        CHECK.due("the rule and faith of day 4999", 1, x.court(3, man, 1, 4999));
        CHECK.due("the rule of day 5000", 0, x.court(3, man, 1, 5000));
        CHECK.due("the rule of day 5029", 0, x.court(3, man, 1, 5029));
        CHECK.due("the rule of day 5030", -1, x.court(3, man, 1, 5030));
        CHECK.due("the faith of day 5029", 0, x.court(0, man, 1, 5029));
        CHECK.due("the faith of day 5030", 1, x.court(0, man, 1, 5030));
    }
}

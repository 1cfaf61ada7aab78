/** Promises 23 and 28: ofPerson, pass. */
public final class DaysTest {
    private static final Check CHECK = new Check("DaysTest");

    public static void main(String[] args) {
        persons();
        marriagesThatLast();
        childrenWhoLive();
        days();
        lastDay();
        turnsOfManyDays();
        CHECK.end();
    }

    private static void persons() {
        Milletcourt x = Check.empire(1);
        Check.man(x, 0);
        x.goods(0, 12);
        long[] due = {12, 1, 0, -1, -1, 0};
        for (int what = 0; what < due.length; what++) {
            CHECK.due("of a person " + what, due[what], x.ofPerson(0, what));
        }
        x.dies(0);
        CHECK.due("goods of the dead", 0, x.ofPerson(0, 0));
        CHECK.due("whether the dead lives", 0, x.ofPerson(0, 1));
    }

    private static void marriagesThatLast() {
        Milletcourt x = Check.empire(1);
        for (int i = 0; i < 5; i++) {
            x.person(i == 0, -1, -1, 0);
        }
        Check.passDays(x, 5000);
        x.decree(0, 1, 1);
        x.decree(0, 2, 4);
        for (int i = 1; i < 5; i++) {
            x.marry(0, i, 0);
        }
        CHECK.due("how many", 4, x.ofPerson(0, 2));
        CHECK.due("the lowest one", 0, x.ofPerson(0, 4));
        CHECK.due("a wife's", 3, x.ofPerson(4, 4));
        x.divorce(0, true);
        x.dies(2);
        CHECK.due("how many yet", 2, x.ofPerson(0, 2));
        CHECK.due("the lowest one yet", 2, x.ofPerson(0, 4));
        CHECK.due("of the divorced", -1, x.ofPerson(1, 4));
        CHECK.due("of the dead", 0, x.ofPerson(2, 2));
        x.dies(0);
        CHECK.due("none", -1, x.ofPerson(4, 4));
        CHECK.due("of a widow", 0, x.ofPerson(4, 2));
    }

    private static void childrenWhoLive() {
        Milletcourt x = Check.empire(1);
        int man = Check.man(x, 0);
        int woman = Check.woman(x, 0);
        int child = x.person(true, woman, man, -1);
        x.person(true, woman, -1, -1);
        x.person(true, -1, child, -1);
        CHECK.due("the man's", 1, x.ofPerson(man, 5));
        CHECK.due("the woman's", 2, x.ofPerson(woman, 5));
        CHECK.due("the child's", 1, x.ofPerson(child, 5));
        x.dies(child);
        x.dies(woman);
        CHECK.due("the man's who live", 0, x.ofPerson(man, 5));
        CHECK.due("the dead woman's", 1, x.ofPerson(woman, 5));
        CHECK.due("the dead child's", 1, x.ofPerson(child, 5));
    }

    private static void days() {
        Milletcourt x = new Milletcourt();
        CHECK.due("one day", 1, x.pass(1));
        CHECK.due("2000 days", 2001, x.pass(2000));
        CHECK.due("the next day", 2002, x.pass(1));
    }

    private static void lastDay() {
        Milletcourt x = new Milletcourt();
        Check.passDays(x, 29990);
        CHECK.due("the last day", 30000, x.pass(10));
        CHECK.due("the law of the last day", 25, x.law(-1, 3, 30000));
    }

    private static void turnsOfManyDays() {
        Milletcourt x = Check.empire(3);
        for (int i = 0; i < 9; i++) {
            Check.man(x, i / 3);
        }
        Check.passDays(x, 5000);
        x.turn(0, 1, 3, 4);
        x.turn(8, 1, 3, 4);
        x.pass(1);
        x.turn(3, 2, 6, 7);
        x.turn(1, 2, 6, 7);
        x.pass(2000);
        CHECK.due("due on day 5030", 1, x.faith(0, 5030));
        CHECK.due("due on day 5030, too", 1, x.faith(8, 5030));
        CHECK.due("due on day 5031", 2, x.faith(3, 5031));
        CHECK.due("not ahead of it", 1, x.faith(3, 5030));
        CHECK.due("due on day 5031, too", 2, x.faith(1, 7001));
        CHECK.due("not ahead of it, either", 0, x.faith(1, 5030));
    }
}

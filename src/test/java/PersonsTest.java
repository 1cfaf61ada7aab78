/** Promises 8 to 11: person, turn, recant, faith. */
public final class PersonsTest {
    private static final Check CHECK = new Check("PersonsTest");

    public static void main(String[] args) {
        births();
        turns();
        witnessesOfTurns();
        deathEndsTurning();
        recants();
        childrenFollow();
        childrenOfChildrenFollow();
        othersChildrenStay();
        fatherlessFollowMother();
        undoing();
        undoingRightAhead();
        undoingTwice();
        undoingLeadsChildren();
        followersUndoNothing();
        undoingOfWhatWasFollowed();
        CHECK.end();
    }

    /** Man 0 and woman 1 of faith 0, man 2 and woman 3 of faith 1, men 4, 5 of faith 2, man 6 of 0; all grown. */
    private static Milletcourt grown() {
        Milletcourt x = Check.empire(3);
        for (int faith = 0; faith < 2; faith++) {
            Check.man(x, faith);
            Check.woman(x, faith);
        }
        Check.man(x, 2);
        Check.man(x, 2);
        Check.man(x, 0);
        Check.passDays(x, 5000);
        return x;
    }

    private static void births() {
        Milletcourt x = Check.empire(2);
        int man = Check.man(x, 0);
        int woman = Check.woman(x, 1);
        CHECK.due("the father's faith", 0, x.faith(x.person(true, woman, man, -1), 0));
        CHECK.due("the faith of the father alone", 0, x.faith(x.person(true, -1, man, -1), 0));
        CHECK.due("the mother's faith", 1, x.faith(x.person(false, woman, -1, -1), 0));
        CHECK.due("the faith that is told", 1, x.faith(x.person(false, -1, -1, 1), 0));
        x.dies(man);
        CHECK.due("a dead father's faith", 0, x.faith(x.person(true, woman, man, -1), 0));
        CHECK.due("the number", 7, x.person(true, woman, man, -1));
        CHECK.due("it lives", 1, x.ofPerson(7, 1));
        CHECK.due("without goods", 0, x.ofPerson(7, 0));
    }

    private static void turns() {
        Milletcourt x = grown();
        CHECK.due("the day", 5030, x.turn(0, 1, 2, 3));
        CHECK.due("the day, asked", 5030, x.ofPerson(0, 3));
        CHECK.due("others do not turn", -1, x.ofPerson(1, 3));
        x.pass(29);
        CHECK.due("not yet", 0, x.faith(0, 5029));
        CHECK.due("turning yet", 5030, x.ofPerson(0, 3));
        x.pass(3);
        CHECK.due("the day before", 0, x.faith(0, 5029));
        CHECK.due("that day", 1, x.faith(0, 5030));
        CHECK.due("now", 1, x.faith(0, 5032));
        CHECK.due("turning no more", -1, x.ofPerson(0, 3));
        CHECK.due("at first", 0, x.faith(0, 0));
        CHECK.due("to a third faith", 5062, x.turn(0, 2, 4, 5));
    }

    private static void witnessesOfTurns() {
        Milletcourt x = grown();
        int minor = Check.man(x, 1);
        x.turn(0, 1, 2, 3);
        x.dies(2);
        x.pass(30);
        CHECK.due("witnesses may die since", 1, x.faith(0, 5030));
        Check.passDays(x, 4969);
        CHECK.noState("a minor on its 5000th day", () -> x.turn(minor, 0, 1, 6));
        x.pass(1);
        CHECK.due("grown a day on", 10030, x.turn(minor, 0, 1, 6));
    }

    private static void deathEndsTurning() {
        Milletcourt x = grown();
        x.turn(0, 1, 2, 3);
        x.pass(29);
        x.dies(0);
        CHECK.due("turning no more", -1, x.ofPerson(0, 3));
        CHECK.noState("nothing to recant", () -> x.recant(0));
        x.pass(5);
        CHECK.due("the faith of the dead", 0, x.faith(0, 5034));
    }

    private static void recants() {
        Milletcourt x = grown();
        CHECK.noState("who is not turning", () -> x.recant(0));
        x.turn(0, 2, 4, 5);
        x.pass(29);
        CHECK.due("the community", 2, x.recant(0));
        CHECK.due("turning no more", -1, x.ofPerson(0, 3));
        CHECK.noState("twice", () -> x.recant(0));
        x.pass(1);
        CHECK.due("its faith", 0, x.faith(0, 5030));
        CHECK.due("turning anew", 5060, x.turn(0, 1, 2, 3));
        x.pass(30);
        CHECK.due("the new faith", 1, x.faith(0, 5060));
        CHECK.noState("what is taken", () -> x.recant(0));
    }

    private static void childrenFollow() {
        Milletcourt x = grown();
        int child = x.person(true, 1, 0, -1);
        int ofOther = x.person(true, 1, 6, -1);
        int dead = x.person(false, 1, 0, -1);
        x.dies(dead);
        Check.take(x, 0, 1, 2, 3);
        CHECK.due("a child before", 0, x.faith(child, 5029));
        CHECK.due("a child", 1, x.faith(child, 5030));
        CHECK.due("another man's child", 0, x.faith(ofOther, 5030));
        CHECK.due("a dead child", 0, x.faith(dead, 5030));
        Check.passDays(x, 4940);
        Check.take(x, 0, 2, 4, 5);
        CHECK.due("the last day would be 9999", 1, x.faith(child, 10000));
        Milletcourt y = grown();
        int late = y.person(true, 1, 0, -1);
        Check.passDays(y, 4969);
        Check.take(y, 0, 1, 2, 3);
        CHECK.due("on the 5000th day", 1, y.faith(late, 9999));
    }

    private static void childrenOfChildrenFollow() {
        Milletcourt x = grown();
        int son = x.person(true, -1, 0, -1);
        int grandson = x.person(true, -1, son, -1);
        int daughter = x.person(false, 1, 0, -1);
        int ofDaughter = x.person(false, daughter, -1, -1);
        int ofDead = x.person(false, -1, 0, -1);
        int belowDead = x.person(false, ofDead, -1, -1);
        x.dies(ofDead);
        int next = x.person(true, 1, 0, -1);
        int belowNext = x.person(true, 1, next, -1);
        int stranger = Check.woman(x, 1);
        int withStranger = x.person(true, stranger, son, -1);
        Check.take(x, 0, 1, 2, 3);
        CHECK.due("the son", 1, x.faith(son, 5030));
        CHECK.due("the grandson", 1, x.faith(grandson, 5030));
        CHECK.due("the daughter's child", 1, x.faith(ofDaughter, 5030));
        CHECK.due("a dead child's child", 0, x.faith(belowDead, 5030));
        CHECK.due("a grandchild by another mother", 1, x.faith(withStranger, 5030));
        CHECK.due("the grandson before", 0, x.faith(grandson, 5029));
        CHECK.due("a grandson right behind the son", 1, x.faith(belowNext, 5030));
        Check.take(x, 6, 2, 4, 5);
        CHECK.due("the son, when a stranger turns", 1, x.faith(son, 5060));
    }

    private static void othersChildrenStay() {
        Milletcourt x = grown();
        int ofFirst = x.person(true, 1, 0, -1);
        int last = Check.man(x, 0);
        Check.passDays(x, 5000);
        int ofLast = x.person(true, 1, last, -1);
        int ofGrown = x.person(true, 1, ofFirst, -1);
        Check.take(x, last, 1, 2, 3);
        CHECK.due("the child of who turns", 1, x.faith(ofLast, 10030));
        Check.take(x, ofFirst, 2, 4, 5);
        CHECK.due("its child", 2, x.faith(ofGrown, 10060));
        CHECK.due("the child of who turned before", 1, x.faith(ofLast, 10060));
        Check.take(x, 0, 1, 2, 3);
        CHECK.due("a grown child", 2, x.faith(ofFirst, 10090));
        CHECK.due("below a grown child", 2, x.faith(ofGrown, 10090));
    }

    private static void fatherlessFollowMother() {
        Milletcourt x = grown();
        int fatherless = x.person(true, 1, -1, -1);
        int withFather = x.person(true, 1, 0, -1);
        int ofDeadFather = x.person(true, 1, 6, -1);
        x.dies(6);
        Check.take(x, 1, 1, 2, 3);
        CHECK.due("a child without a father", 1, x.faith(fatherless, 5030));
        CHECK.due("a child with one", 0, x.faith(withFather, 5030));
        CHECK.due("a child with a dead one", 0, x.faith(ofDeadFather, 5030));
        Check.take(x, 0, 1, 2, 3);
        CHECK.due("the child behind its father", 1, x.faith(withFather, 5060));
    }

    private static void undoing() {
        Milletcourt x = grown();
        Check.take(x, 0, 1, 2, 3);
        x.pass(69);
        Check.take(x, 0, 0, 1, 6);
        CHECK.due("99 days behind, as if never", 0, x.faith(0, 5030));
        CHECK.due("on all days", 0, x.faith(0, 5128));
        CHECK.due("now", 0, x.faith(0, 5129));
        CHECK.due("the court between", 0, x.court(0, 0, 1, 5060));
        Milletcourt y = grown();
        Check.take(y, 0, 1, 2, 3);
        y.pass(70);
        Check.take(y, 0, 0, 1, 6);
        CHECK.due("100 days behind, between", 1, y.faith(0, 5129));
        CHECK.due("100 days behind, now", 0, y.faith(0, 5130));
    }

    private static void undoingRightAhead() {
        Milletcourt x = grown();
        Check.take(x, 0, 1, 2, 3);
        Check.take(x, 0, 2, 4, 5);
        Check.take(x, 0, 0, 1, 6);
        CHECK.due("not right ahead: 1", 1, x.faith(0, 5030));
        CHECK.due("not right ahead: 2", 2, x.faith(0, 5060));
        CHECK.due("not right ahead: 0", 0, x.faith(0, 5090));
        Check.take(x, 0, 2, 4, 5);
        CHECK.due("0 is undone on its day", 2, x.faith(0, 5090));
        CHECK.due("2 is from day 5060 on", 1, x.faith(0, 5059));
        CHECK.due("2 is now", 2, x.faith(0, 5120));
    }

    private static void undoingTwice() {
        Milletcourt x = grown();
        Check.take(x, 0, 1, 2, 3);
        Check.take(x, 0, 2, 4, 5);
        Check.take(x, 0, 1, 2, 3);
        CHECK.due("2 is undone", 1, x.faith(0, 5060));
        Check.take(x, 0, 0, 1, 6);
        CHECK.due("1, taken 90 days ahead, is undone too", 0, x.faith(0, 5030));
        CHECK.due("on all days", 0, x.faith(0, 5119));
        Check.take(x, 0, 1, 2, 3);
        CHECK.due("nothing is ahead of birth: before", 0, x.faith(0, 5149));
        CHECK.due("nothing is ahead of birth: now", 1, x.faith(0, 5150));
        Milletcourt y = grown();
        Check.take(y, 0, 1, 2, 3);
        Check.take(y, 0, 2, 4, 5);
        Check.take(y, 0, 1, 2, 3);
        y.pass(10);
        Check.take(y, 0, 0, 1, 6);
        CHECK.due("1 was taken 100 days ahead", 1, y.faith(0, 5129));
        CHECK.due("0 anew", 0, y.faith(0, 5130));
    }

    private static void undoingLeadsChildren() {
        Milletcourt x = grown();
        int child = x.person(true, 1, 0, -1);
        x.turn(0, 1, 2, 3);
        x.pass(30);
        int born = x.person(false, 1, 0, -1);
        Check.take(x, 0, 0, 1, 6);
        CHECK.due("undone", 0, x.faith(0, 5059));
        CHECK.due("the child's stays", 1, x.faith(child, 5059));
        CHECK.due("the child takes it", 0, x.faith(child, 5060));
        CHECK.due("who was born between", 1, x.faith(born, 5059));
        CHECK.due("takes it", 0, x.faith(born, 5060));
    }

    private static void followersUndoNothing() {
        Milletcourt x = grown();
        int child = x.person(true, 1, 0, -1);
        int grandchild = x.person(true, -1, child, -1);
        Check.take(x, 0, 1, 2, 3);
        x.pass(100);
        Check.take(x, 0, 2, 4, 5);
        Check.take(x, 0, 1, 2, 3);
        CHECK.due("the father's is undone", 1, x.faith(0, 5160));
        CHECK.due("the child's is not", 2, x.faith(child, 5160));
        CHECK.due("nor the grandchild's", 2, x.faith(grandchild, 5189));
        CHECK.due("the grandchild now", 1, x.faith(grandchild, 5190));
    }

    private static void undoingOfWhatWasFollowed() {
        Milletcourt x = grown();
        int child = x.person(true, 1, 0, -1);
        Check.passDays(x, 4960);
        Check.take(x, 0, 1, 2, 3);
        CHECK.due("followed on day 9990", 1, x.faith(child, 9990));
        x.pass(10);
        Check.take(x, child, 0, 1, 6);
        CHECK.due("in whatever way it took it", 0, x.faith(child, 9990));
        CHECK.due("now", 0, x.faith(child, 10030));
        CHECK.due("the father stays", 1, x.faith(0, 10030));
    }
}

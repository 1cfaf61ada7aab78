/** Promises 14, 15, 26 and 27: goods, dies, treasury, all. */
public final class EstatesTest {
    private static final Check CHECK = new Check("EstatesTest");

    public static void main(String[] args) {
        goods();
        toTheCrown();
        dowersFirst();
        dowersBeyondGoods();
        dowerOfADeadWife();
        widowsPart();
        widowsPartIsRounded();
        widowsOfUnlikeNumbers();
        widowers();
        divorcedGetNothing();
        widowsPartStays();
        sharesEqual();
        sharesDouble();
        sharesFirst();
        roundingByDouble();
        childrenOfMothers();
        deadChildren();
        barred();
        barredFirst();
        lawOfTheEstate();
        CHECK.end();
    }

    /** Men 0, 1 and women 2, 3, 4 of faith 0, man 5 and woman 6 of faith 1; all grown. */
    private static Milletcourt grown() {
        Milletcourt x = Check.empire(2);
        for (int i = 0; i < 5; i++) {
            x.person(i < 2, -1, -1, 0);
        }
        Check.man(x, 1);
        Check.woman(x, 1);
        Check.passDays(x, 5000);
        x.decree(0, 2, 4);
        return x;
    }

    private static void dueHas(Milletcourt x, String what, int person, long goods) {
        CHECK.due(what, goods, x.ofPerson(person, 0));
    }

    private static void goods() {
        Milletcourt x = grown();
        CHECK.due("one cent", 1, x.goods(0, 1));
        CHECK.due("a million", 1000001, x.goods(0, 1000000));
        x.goods(1, 7);
        CHECK.due("all", 1000008, x.all());
        for (int i = 0; i < 300; i++) {
            x.goods(2, 1000000);
        }
        CHECK.due("very much", 300000000, x.ofPerson(2, 0));
    }

    private static void toTheCrown() {
        Milletcourt x = grown();
        x.goods(0, 500);
        x.goods(1, 30);
        CHECK.due("to the crown", 500, x.dies(0));
        dueHas(x, "the dead", 0, 0);
        CHECK.due("the treasury", 500, x.treasury());
        CHECK.due("to the crown, too", 30, x.dies(1));
        CHECK.due("the treasury then", 530, x.treasury());
        CHECK.due("all", 530, x.all());
    }

    private static void dowersFirst() {
        Milletcourt x = grown();
        x.decree(0, 3, 0);
        x.goods(0, 1000);
        x.marry(0, 3, 600);
        x.marry(0, 2, 300);
        x.marry(0, 6, 50);
        CHECK.due("the rest", 50, x.dies(0));
        dueHas(x, "the first dower", 3, 600);
        dueHas(x, "the second one", 2, 300);
        dueHas(x, "the third one", 6, 50);
        CHECK.due("widowed", Milletcourt.WIDOWED, x.ofMarriage(2, 0));
        CHECK.due("owed no more", 0, x.ofMarriage(0, 3));
    }

    private static void dowersBeyondGoods() {
        Milletcourt x = grown();
        x.goods(0, 700);
        x.marry(0, 3, 600);
        x.marry(0, 2, 300);
        x.marry(0, 4, 300);
        CHECK.due("nothing is left", 0, x.dies(0));
        dueHas(x, "by the marriages' numbers", 3, 600);
        dueHas(x, "as far as there is something", 2, 100);
        dueHas(x, "not any more", 4, 0);
        for (int i = 0; i < 3; i++) {
            CHECK.due("owed no more " + i, 0, x.ofMarriage(i, 3));
        }
    }

    private static void dowerOfADeadWife() {
        Milletcourt x = grown();
        x.goods(0, 100);
        x.goods(2, 40);
        x.marry(0, 2, 60);
        CHECK.due("the wife's rest", 30, x.dies(2));
        dueHas(x, "the widower pays no dower", 0, 110);
        CHECK.due("it is not owed", 0, x.ofMarriage(0, 3));
        CHECK.due("widowed", Milletcourt.WIDOWED, x.ofMarriage(0, 0));
        CHECK.due("nothing lasts", 0, x.ofPerson(0, 2));
    }

    private static void widowsPart() {
        Milletcourt x = grown();
        x.decree(0, 3, 40);
        int child = x.person(true, 2, 0, -1);
        x.goods(0, 1000);
        x.marry(0, 2, 100);
        x.marry(0, 3, 0);
        CHECK.due("nothing to the crown", 0, x.dies(0));
        dueHas(x, "a dower and half of the part", 2, 280);
        dueHas(x, "half of the part", 3, 180);
        dueHas(x, "the child", child, 540);
    }

    private static void widowsPartIsRounded() {
        Milletcourt x = grown();
        x.decree(0, 3, 33);
        x.goods(0, 101);
        x.marry(0, 4, 0);
        x.marry(0, 3, 0);
        x.marry(0, 2, 0);
        CHECK.due("the rest", 68, x.dies(0));
        dueHas(x, "33 among three", 4, 11);
        x.goods(1, 107);
        x.decree(0, 3, 100);
        x.marry(1, 4, 0);
        x.marry(1, 3, 0);
        x.marry(1, 2, 0);
        CHECK.due("no rest", 0, x.dies(1));
        dueHas(x, "a third", 4, 11 + 35);
        dueHas(x, "another third", 3, 11 + 35);
        dueHas(x, "the lowest number has what is missing", 2, 11 + 37);
    }

    private static void widowsOfUnlikeNumbers() {
        Milletcourt x = grown();
        x.decree(0, 3, 50);
        x.goods(0, 10);
        x.marry(0, 3, 0);
        x.marry(0, 2, 0);
        CHECK.due("the rest", 5, x.dies(0));
        dueHas(x, "the lower person, the higher marriage", 2, 3);
        dueHas(x, "the higher person", 3, 2);
    }

    private static void widowers() {
        Milletcourt x = grown();
        int child = x.person(false, 2, 0, -1);
        x.goods(2, 400);
        x.marry(0, 2, 70);
        CHECK.due("nothing to the crown", 0, x.dies(2));
        dueHas(x, "the widower", 0, 100);
        dueHas(x, "the child", child, 300);
    }

    private static void divorcedGetNothing() {
        Milletcourt x = grown();
        x.decree(0, 1, 1);
        x.goods(0, 400);
        x.marry(0, 2, 0);
        x.divorce(0, true);
        x.marry(0, 3, 0);
        CHECK.due("the rest", 300, x.dies(0));
        dueHas(x, "the divorced one", 2, 0);
        dueHas(x, "the widow", 3, 100);
        CHECK.due("divorced as before", Milletcourt.DIVORCED, x.ofMarriage(0, 0));
    }

    private static void widowsPartStays() {
        Milletcourt x = grown();
        int child = x.person(false, -1, 0, -1);
        x.goods(0, 400);
        CHECK.due("nothing to the crown", 0, x.dies(0));
        dueHas(x, "all to the child", child, 400);
        x.decree(0, 5, 1);
        int other = x.person(true, 6, 1, -1);
        x.goods(1, 200);
        x.marry(1, 6, 10);
        CHECK.due("nothing to the crown", 0, x.dies(1));
        dueHas(x, "a barred widow has her dower", 6, 10);
        dueHas(x, "her part stays with the rest", other, 190);
    }

    private static void sharesEqual() {
        Milletcourt x = grown();
        int first = x.person(false, -1, 0, -1);
        int second = x.person(true, -1, 0, -1);
        int third = x.person(false, -1, 0, -1);
        x.person(true, -1, 1, -1);
        x.goods(0, 104);
        CHECK.due("nothing to the crown", 0, x.dies(0));
        dueHas(x, "the lowest number has what is missing", first, 36);
        dueHas(x, "the son", second, 34);
        dueHas(x, "the daughter", third, 34);
        dueHas(x, "another man's son", third + 1, 0);
    }

    private static void sharesDouble() {
        Milletcourt x = grown();
        x.decree(0, 0, 1);
        int daughter = x.person(false, -1, 0, -1);
        int son = x.person(true, -1, 0, -1);
        int other = x.person(true, -1, 0, -1);
        x.goods(0, 100);
        CHECK.due("nothing to the crown", 0, x.dies(0));
        dueHas(x, "the daughter", daughter, 20);
        dueHas(x, "the son", son, 40);
        dueHas(x, "the other son", other, 40);
    }

    private static void sharesFirst() {
        Milletcourt x = grown();
        x.decree(0, 0, 2);
        int first = x.person(false, -1, 0, -1);
        int second = x.person(false, -1, 0, -1);
        int third = x.person(true, -1, 0, -1);
        x.dies(first);
        x.goods(0, 101);
        CHECK.due("nothing to the crown", 0, x.dies(0));
        dueHas(x, "the lowest who lives", second, 101);
        dueHas(x, "the son", third, 0);
    }

    private static void roundingByDouble() {
        Milletcourt x = grown();
        x.decree(0, 0, 1);
        int son = x.person(true, -1, 0, -1);
        int daughter = x.person(false, -1, 0, -1);
        x.goods(0, 8);
        x.dies(0);
        dueHas(x, "two shares and what is missing", son, 6);
        dueHas(x, "one share", daughter, 2);
        int girl = x.person(false, -1, 1, -1);
        int boy = x.person(true, -1, 1, -1);
        x.goods(1, 2);
        x.dies(1);
        dueHas(x, "all that is missing", girl, 2);
        dueHas(x, "no share", boy, 0);
    }

    private static void childrenOfMothers() {
        Milletcourt x = grown();
        int child = x.person(true, 2, 0, -1);
        int other = x.person(true, 2, 1, -1);
        x.goods(2, 50);
        CHECK.due("nothing to the crown", 0, x.dies(2));
        dueHas(x, "her child", child, 25);
        dueHas(x, "her other child", other, 25);
        Check.passDays(x, 5000);
        x.goods(0, 9);
        x.dies(0);
        dueHas(x, "a grown child", child, 34);
    }

    private static void deadChildren() {
        Milletcourt x = grown();
        int child = x.person(true, 2, 0, -1);
        int grandchild = x.person(true, -1, child, -1);
        x.dies(child);
        x.goods(0, 50);
        CHECK.due("all to the crown", 50, x.dies(0));
        dueHas(x, "a grandchild", grandchild, 0);
    }

    private static void barred() {
        Milletcourt x = grown();
        int alike = x.person(true, 2, 0, -1);
        int unlike = x.person(true, 2, 5, -1);
        x.decree(0, 5, 1);
        x.marry(0, 6, 30);
        x.marry(0, 3, 0);
        x.goods(0, 430);
        CHECK.due("nothing to the crown", 0, x.dies(0));
        dueHas(x, "a widow of another faith", 6, 30);
        dueHas(x, "the widow has the whole part", 3, 100);
        dueHas(x, "the child", alike, 300);
        x.goods(2, 60);
        x.dies(2);
        dueHas(x, "her child of another faith", unlike, 0);
        dueHas(x, "her child of her faith", alike, 360);
        x.decree(0, 5, 0);
        x.marry(1, 6, 0);
        x.goods(1, 100);
        CHECK.due("the rest, without children", 75, x.dies(1));
        dueHas(x, "where nobody is barred", 6, 55);
    }

    private static void barredFirst() {
        Milletcourt x = grown();
        x.decree(0, 0, 2);
        x.decree(0, 5, 1);
        int unlike = x.person(true, 2, 5, -1);
        int alike = x.person(true, 2, 0, -1);
        x.goods(2, 60);
        x.dies(2);
        dueHas(x, "the first one is barred", unlike, 0);
        dueHas(x, "the next one", alike, 60);
        x.dies(alike);
        CHECK.due("the crown gets what nobody gets", 60, x.treasury());
        int only = x.person(true, 3, 5, -1);
        x.goods(3, 8);
        CHECK.due("all children are barred", 8, x.dies(3));
        dueHas(x, "the only child", only, 0);
    }

    private static void lawOfTheEstate() {
        Milletcourt x = grown();
        int child = x.person(true, 2, 0, -1);
        int other = x.person(true, 2, 0, -1);
        x.decree(1, 0, 2);
        x.decree(-1, 3, 50);
        Check.take(x, 0, 1, 5, 6);
        x.goods(0, 60);
        x.dies(0);
        dueHas(x, "by the law of the faith of that day", child, 60);
        dueHas(x, "the other child", other, 0);
        x.rule(2, 3);
        x.marry(1, 2, 0);
        x.goods(2, 40);
        x.dies(2);
        dueHas(x, "half by the crown's law", 1, 20);
        dueHas(x, "a quarter", other, 10);
    }
}

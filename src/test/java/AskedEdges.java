/** The edges of a new object, of what is asked of persons, and of days, by the words of the document: 1, 23 and 28. */
final class AskedEdges {
    private final Check check;

    AskedEdges(Check check) {
        this.check = check;
    }

    void all() {
        newObject();
        refusedCalls();
        goodsOfPersons();
        lives();
        marriagesOfPersons();
        turnsOfPersons();
        lowestMarriages();
        childrenOfPersons();
        personRefuses();
        daysAreCounted();
        passDays();
        passRefuses();
        lastDay();
        dueWithinAPass();
    }

    /** On the day 5000: the man 0 and women 1 to 4 of the faith 0, men 5, 6 of the faith 1; four wives at most. */
    private static Milletcourt grown() {
        Milletcourt x = Check.empire(2);
        for (int i = 0; i < 5; i++) {
            x.person(i == 0, -1, -1, 0);
        }
        Check.man(x, 1);
        Check.man(x, 1);
        Check.passDays(x, 5000);
        x.decree(0, 2, 4);
        x.decree(0, 1, 1);
        return x;
    }

    private void newObject() {
        check.promise(1, "Creates an empire without communities and persons.");
        Milletcourt x = new Milletcourt();
        check.noIndex("the community 0", () -> x.law(0, 0, 0));
        check.noIndex("the person 0", () -> x.ofPerson(0, 0));
        check.noIndex("the marriage 0", () -> x.ofMarriage(0, 0));
        check.noIndex("the suit 0", () -> x.ofSuit(0, 0));
        check.due("the crown's law", 25, x.law(-1, 3, 0));
        check.due("the treasury", 0, x.treasury());
        check.due("all", 0, x.all());
        check.due("the first community", 0, x.community());
        check.due("the first community of another one", 0, new Milletcourt().community());
        check.due("the first person", 0, Check.man(x, 0));
    }

    /** What it says of exceptions holds for every call; the other tests try it for each by Check.refused. */
    private void refusedCalls() {
        check.says("A call that throws an exception changes nothing;");
        check.noState("a minor's marriage", () -> withMinor(), x -> x.marry(0, 7, 5));
        check.noState("a minor's turning", () -> withMinor(), x -> x.turn(7, 1, 5, 6));
        check.noArgument("too many goods", () -> withMinor(), x -> x.goods(0, 1000001));
        check.noIndex("a suit before no court", () -> withMinor(), x -> x.sue(0, 1, 2, 5));
    }

    private static Milletcourt withMinor() {
        Milletcourt x = grown();
        Check.woman(x, 0);
        return x;
    }

    // ---- persons

    private void goodsOfPersons() {
        check.promise(23, "Tells of a person.");
        check.promise(23, "Returns as told.");
        check.promise(23, "- `what`: 0 its goods,");
        Milletcourt x = grown();
        check.due("at first", 0, x.ofPerson(0, 0));
        x.goods(0, 1);
        check.due("then", 1, x.ofPerson(0, 0));
        x.dies(0);
        check.due("of the dead", 0, x.ofPerson(0, 0));
    }

    private void lives() {
        check.promise(23, "1 whether it lives, 1 or 0,");
        Milletcourt x = grown();
        check.due("a grown one", 1, x.ofPerson(0, 1));
        int child = Check.man(x, 0);
        check.due("on its day of birth", 1, x.ofPerson(child, 1));
        x.dies(0);
        check.due("on the day of death", 0, x.ofPerson(0, 1));
        x.pass(1);
        check.due("a day on", 0, x.ofPerson(0, 1));
        Check.passDays(x, 24999);
        check.due("nobody dies by days", 1, x.ofPerson(child, 1));
    }

    private void marriagesOfPersons() {
        check.promise(23, "2 how many marriages of it LAST,");
        Milletcourt x = grown();
        for (int wife = 1; wife < 5; wife++) {
            check.due("the husband", wife - 1, x.ofPerson(0, 2));
            x.marry(0, wife, 0);
            check.due("a wife", 1, x.ofPerson(wife, 2));
        }
        check.due("four at most", 4, x.ofPerson(0, 2));
        x.divorce(1, true);
        check.due("behind a divorce", 3, x.ofPerson(0, 2));
        check.due("the divorced one", 0, x.ofPerson(2, 2));
        x.dies(4);
        check.due("behind a death", 2, x.ofPerson(0, 2));
        x.dies(0);
        check.due("the dead", 0, x.ofPerson(0, 2));
        check.due("a widow", 0, x.ofPerson(1, 2));
    }

    private void turnsOfPersons() {
        check.promise(23, "3 the day on which it takes a faith, NONE if it is not turning,");
        Milletcourt x = grown();
        check.due("never turning", -1, x.ofPerson(0, 3));
        x.turn(0, 1, 5, 6);
        check.due("that day", 5030, x.ofPerson(0, 3));
        x.recant(0);
        check.due("recanted", -1, x.ofPerson(0, 3));
        x.turn(0, 1, 5, 6);
        x.turn(1, 1, 5, 6);
        x.pass(29);
        check.due("the day ahead", 5030, x.ofPerson(0, 3));
        x.dies(1);
        check.due("dead the day ahead", -1, x.ofPerson(1, 3));
        x.pass(1);
        check.due("taken", -1, x.ofPerson(0, 3));
    }

    private void lowestMarriages() {
        check.promise(23, "4 the lowest marriage of it that LASTS, NONE without,");
        Milletcourt x = grown();
        check.due("without", -1, x.ofPerson(0, 4));
        x.marry(0, 4, 0);
        x.marry(0, 3, 0);
        check.due("the lower one", 0, x.ofPerson(0, 4));
        check.due("of the second wife", 1, x.ofPerson(3, 4));
        x.divorce(0, true);
        check.due("the one that lasts", 1, x.ofPerson(0, 4));
        check.due("of the divorced one", -1, x.ofPerson(4, 4));
        x.marry(0, 4, 0);
        check.due("the lower one yet", 1, x.ofPerson(0, 4));
        x.dies(3);
        check.due("the one that lasts yet", 2, x.ofPerson(0, 4));
        check.due("of the dead", -1, x.ofPerson(3, 4));
    }

    private void childrenOfPersons() {
        check.promise(23, "5 how many children of it live");
        Milletcourt x = grown();
        check.due("none", 0, x.ofPerson(0, 5));
        x.person(true, 1, 0, -1);
        x.person(true, -1, 0, -1);
        x.person(true, 1, -1, -1);
        x.person(true, -1, 7, -1);
        check.due("a father's", 2, x.ofPerson(0, 5));
        check.due("a mother's", 2, x.ofPerson(1, 5));
        check.due("a child's", 1, x.ofPerson(7, 5));
        x.dies(7);
        check.due("a father's who live", 1, x.ofPerson(0, 5));
        check.due("a mother's who live", 1, x.ofPerson(1, 5));
        check.due("of the dead", 1, x.ofPerson(7, 5));
        Check.passDays(x, 5000);
        check.due("grown ones", 1, x.ofPerson(0, 5));
    }

    private void personRefuses() {
        check.promise(23, "- `person`: the number of a person");
        check.promise(23, "Throws `IndexOutOfBoundsException` if there is no such person");
        check.noIndex("without persons", () -> Check.empire(1), x -> x.ofPerson(0, 0));
        int[] none = {-1, 7, Integer.MIN_VALUE, Integer.MAX_VALUE};
        for (int p : none) {
            check.noIndex("person " + p, () -> grown(), x -> x.ofPerson(p, 0));
        }
        check.promise(23, "Throws `IllegalArgumentException` if what is out of range");
        int[] noWhats = {-1, 6, Integer.MIN_VALUE, Integer.MAX_VALUE};
        for (int what : noWhats) {
            check.noArgument("what " + what, () -> grown(), x -> x.ofPerson(0, what));
        }
        check.says("if several exceptions apply, the one that its throws clause names first is thrown.");
        check.noIndex("person, then what", () -> grown(), x -> x.ofPerson(7, 6));
    }

    // ---- days

    private void daysAreCounted() {
        check.says("Days are counted; it is the day 0 at first.");
        check.due("the day 0", 25, new Milletcourt().law(-1, 3, 0));
        check.noArgument("the day 1 is not yet", () -> new Milletcourt(), x -> x.law(-1, 3, 1));
        check.due("the first day behind it", 1, new Milletcourt().pass(1));
    }

    private void passDays() {
        check.promise(28, "Lets days go by.");
        check.promise(28, "- `days`: 1 to 2000");
        check.promise(28, "Returns the day then.");
        Milletcourt x = new Milletcourt();
        check.due("the fewest", 1, x.pass(1));
        check.due("the most", 2001, x.pass(2000));
        check.due("once more", 4001, x.pass(2000));
    }

    private void passRefuses() {
        check.promise(28, "Throws `IllegalArgumentException` if days is out of range");
        int[] none = {0, -1, 2001, Integer.MIN_VALUE, Integer.MAX_VALUE};
        for (int days : none) {
            check.noArgument("days " + days, () -> turning(), x -> x.pass(days));
        }
    }

    private static Milletcourt turning() {
        Milletcourt x = grown();
        x.turn(0, 1, 5, 6);
        return x;
    }

    /** On the day that is told, 29001 or later, with a turn that is due 30 days later. */
    private static Milletcourt turningLate(int day) {
        Milletcourt x = grown();
        Check.passDays(x, day - 5000);
        x.turn(0, 1, 5, 6);
        return x;
    }

    private void lastDay() {
        check.promise(28, "Throws `IllegalStateException` if it would be above 30000");
        check.due("the last day at once", 30000, turningLate(29001).pass(999));
        check.noState("one day above it", () -> turningLate(29001), x -> x.pass(1000));
        check.noState("many days above it", () -> turningLate(29001), x -> x.pass(2000));
        check.due("the last day by the most", 30000, turningLate(28000).pass(2000));
        check.noState("by the most, one day above it", () -> turningLate(28001), x -> x.pass(2000));
        check.due("the last one", 30000, turningLate(29999).pass(1));
        check.noState("one day more", () -> turningLate(30000), x -> x.pass(1));
        check.says("if several exceptions apply, the one that its throws clause names first is thrown.");
        check.noArgument("range, then the last day", () -> turningLate(30000), x -> x.pass(2001));
        check.noArgument("range, then far above the last day", () -> turningLate(30000), x -> x.pass(Integer.MAX_VALUE));
    }

    private void dueWithinAPass() {
        check.promise(28, "Lets days go by.");
        int[] first = {1, 29, 30, 31, 1999};
        for (int days : first) {
            Milletcourt x = turning();
            x.pass(days);
            check.due("asked behind days: " + days, days < 30 ? 0 : 1, x.faith(0, 5000 + days));
            x.pass(2000);
            check.due("the day ahead", 0, x.faith(0, 5029));
            check.due("that day", 1, x.faith(0, 5030));
        }
    }
}

import java.util.ArrayList;
import java.util.Arrays;

/** An empire of many laws for many peoples; ../shared/DOC.md says what each call promises. */
public final class Milletcourt {
    public static final int NONE = -1;
    public static final int EQUAL = 0, DOUBLE = 1, FIRST = 2;
    public static final int HUSBAND = 0, EITHER = 1, BOTH = 2, NEVER = 3;
    public static final int MARRIAGE = 0, DIVORCE = 1, ESTATE = 2, DEBT = 3;
    public static final int ONE = 0, OTHER = 1, ALIKE = 2, CROWN = 3;
    public static final int LASTS = 0, DIVORCED = 1, WIDOWED = 2;
    public static final int SEISED = 0, VOID = 1, WON = 2, LOST = 3;

    private static final int MOST_COMMUNITIES = 6;
    private static final int MOST_DECREES = 100;
    private static final int MOST_RULES = 40;
    private static final int MOST_PERSONS = 40;
    private static final int MOST_MARRIAGES = 30;
    private static final int MOST_SUITS = 20;
    private static final int MOST_CENTS = 1000000;
    private static final int MOST_DAYS_AT_ONCE = 2000;
    private static final int LAST_DAY = 30000;

    private static final int DAYS_OF_A_MINOR = 5000;
    private static final int DAYS_TO_TURN = 30;
    private static final int DAYS_TO_UNDO = 100;
    private static final int DAYS_TO_APPEAL = 60;
    private static final int WEIGHT_TO_WIN = 4;

    private static final int SHARES = 0;
    private static final int DIVORCE_BY = 1;
    private static final int MOST_WIVES = 2;
    private static final int WIDOWS_PART = 3;
    private static final int TAKES_MIXED = 4;
    private static final int BARS = 5;
    private static final int HEARS_WHOLLY = 6;

    /** Of a law's numbers, in the order above: those at first, the lowest and the highest ones. */
    private static final int[] LAWS_AT_FIRST = {0, 2, 1, 25, 1, 0, 63};
    private static final int[] LAWS_LOWEST = {0, 0, 1, 0, 0, 0, 0};
    private static final int[] LAWS_HIGHEST = {2, 3, 4, 100, 1, 1, 63};

    /** By matters. */
    private static final int[] RULES_AT_FIRST = {0, 0, 0, 1};

    private final Law crown = new Law();
    private final ArrayList<Community> communities = new ArrayList<Community>();
    private final Chronicle[] rules = chroniclesFrom(RULES_AT_FIRST);
    private final ArrayList<Person> persons = new ArrayList<Person>();
    private final ArrayList<Marriage> marriages = new ArrayList<Marriage>();
    private final ArrayList<Suit> suits = new ArrayList<Suit>();
    private int decreesTold = 0;
    private int rulesTold = 0;
    private int today = 0;
    private long crownGoods = 0;

    public Milletcourt() {
    }

    // ---- communities, laws, rules

    public int community() throws IllegalStateException {
        if (communities.size() >= MOST_COMMUNITIES) {
            throw new IllegalStateException("there are 6 communities");
        }
        communities.add(new Community(today));
        return communities.size() - 1;
    }

    public boolean recognise(int community, boolean isOn) throws IndexOutOfBoundsException {
        Community told = communityAt(community);
        boolean wasOn = told.recognition.newest() == 1;
        told.recognition.tell(today, isOn ? 1 : 0);
        return wasOn;
    }

    public int decree(int community, int what, int number)
            throws IndexOutOfBoundsException, IllegalArgumentException, IllegalStateException {
        Law told = lawAt(community);
        needWithin(what, 0, LAWS_AT_FIRST.length - 1);
        needWithin(number, LAWS_LOWEST[what], LAWS_HIGHEST[what]);
        if (decreesTold >= MOST_DECREES) {
            throw new IllegalStateException("there were 100 decrees");
        }
        int before = told.numberOn(what, today);
        told.numbers[what].tell(today, number);
        decreesTold++;
        return before;
    }

    public int rule(int matter, int rule) throws IllegalArgumentException, IllegalStateException {
        needWithin(matter, MARRIAGE, DEBT);
        needWithin(rule, ONE, CROWN);
        if (rulesTold >= MOST_RULES) {
            throw new IllegalStateException("there were 40 rules");
        }
        int before = rules[matter].newest();
        rules[matter].tell(today, rule);
        rulesTold++;
        return before;
    }

    public int law(int community, int what, int day)
            throws IndexOutOfBoundsException, IllegalArgumentException {
        Law asked = lawAt(community);
        needWithin(what, 0, LAWS_AT_FIRST.length - 1);
        needWithin(day, 0, today);
        return asked.numberOn(what, day);
    }

    public int court(int matter, int one, int other, int day)
            throws IndexOutOfBoundsException, IllegalArgumentException {
        Person first = personAt(one);
        Person second = personAt(other);
        needWithin(matter, MARRIAGE, DEBT);
        needWithin(day, Math.max(first.birthday, second.birthday), today);
        return courtOf(matter, first, second, day);
    }

    // ---- persons, faiths

    public int person(boolean isMan, int mother, int father, int faith)
            throws IndexOutOfBoundsException, IllegalArgumentException, IllegalStateException {
        Person motherOrNull = personOrNullAt(mother);
        Person fatherOrNull = personOrNullAt(father);
        if (faith != NONE) {
            communityAt(faith);
        }
        if (motherOrNull != null && motherOrNull.isMan) {
            throw new IllegalArgumentException("the mother is no woman");
        }
        if (fatherOrNull != null && !fatherOrNull.isMan) {
            throw new IllegalArgumentException("the father is no man");
        }
        boolean isFoundling = motherOrNull == null && fatherOrNull == null;
        if (isFoundling == (faith == NONE)) {
            throw new IllegalArgumentException("a faith is told without mother and father alone");
        }
        if (persons.size() >= MOST_PERSONS) {
            throw new IllegalStateException("there are 40 persons");
        }
        int number = persons.size();
        int bornInto = faithAtBirth(motherOrNull, fatherOrNull, faith);
        persons.add(new Person(number, isMan, motherOrNull, fatherOrNull, today, bornInto));
        return number;
    }

    public int turn(int person, int community, int one, int other)
            throws IndexOutOfBoundsException, IllegalArgumentException, IllegalStateException {
        Person turning = personAt(person);
        communityAt(community);
        Person first = personAt(one);
        Person second = personAt(other);
        if (one == other || one == person || other == person) {
            throw new IllegalArgumentException("the person and the witnesses are not three");
        }
        if (!turning.isGrownOn(today) || turning.faithNow() == community || turning.isTurning()) {
            throw new IllegalStateException("the person cannot turn to it now");
        }
        if (!canWitnessTurn(first, community) || !canWitnessTurn(second, community)) {
            throw new IllegalStateException("a witness does not live, is a minor or of another faith");
        }
        turning.turnsTo = community;
        turning.turnsOn = today + DAYS_TO_TURN;
        return turning.turnsOn;
    }

    public int recant(int person) throws IndexOutOfBoundsException, IllegalStateException {
        Person turning = personAt(person);
        if (!turning.isTurning()) {
            throw new IllegalStateException("the person is not turning");
        }
        int community = turning.turnsTo;
        turning.endTurning();
        return community;
    }

    public int faith(int person, int day) throws IndexOutOfBoundsException, IllegalArgumentException {
        Person asked = personAt(person);
        needWithin(day, asked.birthday, today);
        return asked.faiths.numberOn(day);
    }

    // ---- marriages

    public int marry(int husband, int wife, int dower)
            throws IndexOutOfBoundsException, IllegalArgumentException, IllegalStateException {
        Person man = personAt(husband);
        Person woman = personAt(wife);
        if (!man.isMan || woman.isMan) {
            throw new IllegalArgumentException("the husband is no man, or the wife no woman");
        }
        needWithin(dower, 0, MOST_CENTS);
        if (!man.isGrownOn(today) || !woman.isGrownOn(today)) {
            throw new IllegalStateException("one does not live, or is a minor");
        }
        int court = courtOf(MARRIAGE, man, woman, today);
        if (!mayMarry(man, woman, lawAt(court))) {
            throw new IllegalStateException("the law does not take it");
        }
        if (marriages.size() >= MOST_MARRIAGES) {
            throw new IllegalStateException("there are 30 marriages");
        }
        marriages.add(new Marriage(man, woman, dower, court));
        return marriages.size() - 1;
    }

    public boolean divorce(int marriage, boolean byHusband)
            throws IndexOutOfBoundsException, IllegalStateException {
        Marriage asked = marriageAt(marriage);
        if (asked.status != LASTS) {
            throw new IllegalStateException("the marriage does not last");
        }
        if (byHusband) {
            asked.hasHusbandAsked = true;
        } else {
            asked.hasWifeAsked = true;
        }
        Law law = lawAt(courtOf(DIVORCE, asked.husband, asked.wife, today));
        if (!endsByAsking(asked, byHusband, law.numberOn(DIVORCE_BY, today))) {
            return false;
        }
        asked.status = DIVORCED;
        asked.payDower();
        return true;
    }

    // ---- goods, deaths

    public long goods(int person, int cents)
            throws IndexOutOfBoundsException, IllegalArgumentException, IllegalStateException {
        Person owner = personAt(person);
        needWithin(cents, 1, MOST_CENTS);
        if (!owner.lives) {
            throw new IllegalStateException("the person does not live");
        }
        owner.goods += cents;
        return owner.goods;
    }

    public long dies(int person) throws IndexOutOfBoundsException, IllegalStateException {
        Person dead = personAt(person);
        if (!dead.lives) {
            throw new IllegalStateException("the person does not live");
        }
        Law law = lawAt(courtOf(ESTATE, dead, dead, today));
        dead.lives = false;
        dead.endTurning();
        ArrayList<Person> spouses = endMarriagesOf(dead);
        ArrayList<Person> children = livingChildrenOf(dead);
        if (law.numberOn(BARS, today) == 1) {
            removeOtherFaiths(spouses, dead.faithNow());
            removeOtherFaiths(children, dead.faithNow());
        }
        return leaveEstate(dead, spouses, children, law);
    }

    // ---- suits

    public int sue(int plaintiff, int defendant, int court, int cents)
            throws IndexOutOfBoundsException, IllegalArgumentException, IllegalStateException {
        Person suing = personAt(plaintiff);
        Person sued = personAt(defendant);
        lawAt(court);
        if (plaintiff == defendant) {
            throw new IllegalArgumentException("both persons are the same");
        }
        needWithin(cents, 1, MOST_CENTS);
        if (!suing.lives || !sued.lives) {
            throw new IllegalStateException("one does not live");
        }
        if (suits.size() >= MOST_SUITS) {
            throw new IllegalStateException("there are 20 suits");
        }
        Suit told = new Suit(suing, sued, court, cents);
        told.status = isSeisedBetween(suing, sued) ? VOID : SEISED;
        told.canJudge = courtOf(DEBT, suing, sued, today) == court;
        suits.add(told);
        return suits.size() - 1;
    }

    public boolean appear(int suit) throws IndexOutOfBoundsException, IllegalStateException {
        Suit seised = suitAt(suit);
        needSeised(seised);
        if (!seised.defendant.lives) {
            throw new IllegalStateException("the defendant does not live");
        }
        boolean couldNotJudge = !seised.canJudge;
        seised.canJudge = true;
        return couldNotJudge;
    }

    public int testify(int suit, int person, boolean isFor)
            throws IndexOutOfBoundsException, IllegalStateException {
        Suit seised = suitAt(suit);
        Person witness = personAt(person);
        needSeised(seised);
        if (!witness.isGrownOn(today) || seised.isBetween(witness) || seised.hasHeard(witness)) {
            throw new IllegalStateException("the person cannot be a witness in it");
        }
        seised.witnesses.add(new Witness(witness, isFor));
        return seised.witnesses.size();
    }

    public boolean judge(int suit) throws IndexOutOfBoundsException, IllegalStateException {
        Suit seised = suitAt(suit);
        needSeised(seised);
        if (!seised.canJudge) {
            throw new IllegalStateException("its court cannot judge it");
        }
        boolean isWon = isWonBefore(seised, lawAt(seised.court));
        seised.settle(isWon, today);
        if (isWon) {
            seised.owed = seised.cents;
        }
        return isWon;
    }

    public boolean appeal(int suit) throws IndexOutOfBoundsException, IllegalStateException {
        Suit judged = suitAt(suit);
        if (judged.status != WON && judged.status != LOST) {
            throw new IllegalStateException("it is neither won nor lost");
        }
        if (judged.court == NONE || judged.wasAppealed || today - judged.judgedOn > DAYS_TO_APPEAL) {
            throw new IllegalStateException("it cannot be appealed any more");
        }
        boolean wasWon = judged.status == WON;
        boolean isWon = isWonBefore(judged, crown);
        judged.wasAppealed = true;
        judged.settle(isWon, today);
        if (wasWon && !isWon) {
            judged.giveBack();
        } else if (isWon && !wasWon) {
            judged.owed = judged.cents;
        }
        return isWon;
    }

    public long execute(int suit) throws IndexOutOfBoundsException, IllegalStateException {
        Suit won = suitAt(suit);
        if (won.status != WON || won.owed == 0) {
            throw new IllegalStateException("it is not won, or nothing is owed any more");
        }
        if (!won.doBothLive()) {
            throw new IllegalStateException("one of both does not live");
        }
        int paid = won.defendant.payUpTo(won.owed, won.plaintiff);
        won.owed -= paid;
        return paid;
    }

    public boolean wins(int suit, int court) throws IndexOutOfBoundsException {
        Suit asked = suitAt(suit);
        return isWonBefore(asked, lawAt(court));
    }

    // ---- what is asked, days

    public long ofPerson(int person, int what)
            throws IndexOutOfBoundsException, IllegalArgumentException {
        Person asked = personAt(person);
        switch (what) {
            case 0:
                return asked.goods;
            case 1:
                return asked.lives ? 1 : 0;
            case 2:
                return howManyLast(asked);
            case 3:
                return asked.turnsOn;
            case 4:
                return lowestThatLasts(asked);
            case 5:
                return howManyChildrenLive(asked);
            default:
                throw new IllegalArgumentException("what is out of range");
        }
    }

    public int ofMarriage(int marriage, int what)
            throws IndexOutOfBoundsException, IllegalArgumentException {
        Marriage asked = marriageAt(marriage);
        switch (what) {
            case 0:
                return asked.status;
            case 1:
                return asked.husband.number;
            case 2:
                return asked.wife.number;
            case 3:
                return asked.owed;
            case 4:
                return asked.court;
            default:
                throw new IllegalArgumentException("what is out of range");
        }
    }

    public int ofSuit(int suit, int what) throws IndexOutOfBoundsException, IllegalArgumentException {
        Suit asked = suitAt(suit);
        switch (what) {
            case 0:
                return asked.status;
            case 1:
                return asked.court;
            case 2:
                return asked.witnesses.size();
            case 3:
                return asked.owed;
            case 4:
                return asked.judgedOn;
            default:
                throw new IllegalArgumentException("what is out of range");
        }
    }

    public long treasury() {
        return crownGoods;
    }

    public long all() {
        long sum = crownGoods;
        for (int i = 0; i < persons.size(); i++) {
            sum += persons.get(i).goods;
        }
        return sum;
    }

    public int pass(int days) throws IllegalArgumentException, IllegalStateException {
        needWithin(days, 1, MOST_DAYS_AT_ONCE);
        if (days > LAST_DAY - today) {
            throw new IllegalStateException("it would be above the day 30000");
        }
        for (int i = 0; i < days; i++) {
            today++;
            takeFaithsDue();
        }
        return today;
    }

    // ---- what callers tell

    private static void needWithin(int number, int lowest, int highest) {
        if (number < lowest || number > highest) {
            throw new IllegalArgumentException("a number is out of range");
        }
    }

    private Community communityAt(int number) {
        if (number < 0 || number >= communities.size()) {
            throw new IndexOutOfBoundsException("there is no such community");
        }
        return communities.get(number);
    }

    private Law lawAt(int communityOrNone) {
        return communityOrNone == NONE ? crown : communityAt(communityOrNone).law;
    }

    private Person personAt(int number) {
        if (number < 0 || number >= persons.size()) {
            throw new IndexOutOfBoundsException("there is no such person");
        }
        return persons.get(number);
    }

    private Person personOrNullAt(int numberOrNone) {
        return numberOrNone == NONE ? null : personAt(numberOrNone);
    }

    private Marriage marriageAt(int number) {
        if (number < 0 || number >= marriages.size()) {
            throw new IndexOutOfBoundsException("there is no such marriage");
        }
        return marriages.get(number);
    }

    private Suit suitAt(int number) {
        if (number < 0 || number >= suits.size()) {
            throw new IndexOutOfBoundsException("there is no such suit");
        }
        return suits.get(number);
    }

    private static void needSeised(Suit suit) {
        if (suit.status != SEISED) {
            throw new IllegalStateException("the suit is not seised");
        }
    }

    // ---- courts and faiths

    private static Chronicle[] chroniclesFrom(int[] numbers) {
        Chronicle[] chronicles = new Chronicle[numbers.length];
        for (int i = 0; i < numbers.length; i++) {
            chronicles[i] = new Chronicle(0, numbers[i]);
        }
        return chronicles;
    }

    private int courtOf(int matter, Person first, Person second, int day) {
        int faith = faithThatRules(rules[matter].numberOn(day),
                first.faiths.numberOn(day), second.faiths.numberOn(day));
        if (faith == NONE || communityAt(faith).recognition.numberOn(day) == 0) {
            return NONE;
        }
        return faith;
    }

    private static int faithThatRules(int rule, int firstFaith, int secondFaith) {
        switch (rule) {
            case ONE:
                return firstFaith;
            case OTHER:
                return secondFaith;
            case ALIKE:
                return firstFaith == secondFaith ? firstFaith : NONE;
            default:
                return NONE;
        }
    }

    private static int faithAtBirth(Person mother, Person father, int told) {
        if (father != null) {
            return father.faithNow();
        }
        return mother != null ? mother.faithNow() : told;
    }

    private boolean canWitnessTurn(Person witness, int community) {
        return witness.isGrownOn(today) && witness.faithNow() == community;
    }

    private void takeFaithsDue() {
        for (int i = 0; i < persons.size(); i++) {
            Person turning = persons.get(i);
            if (turning.turnsOn == today) {
                int faith = turning.turnsTo;
                turning.endTurning();
                takeByTurning(turning, faith);
                leadChildren(turning, faith);
            }
        }
    }

    private void takeByTurning(Person turning, int faith) {
        Chronicle faiths = turning.faiths;
        if (faiths.goesBackBy(faith) && today - faiths.newestDay() < DAYS_TO_UNDO) {
            faiths.dropNewest();
        } else {
            faiths.tell(today, faith);
        }
    }

    /** One walk upwards is enough: children always have higher numbers than those who lead them. */
    private void leadChildren(Person turned, int faith) {
        for (int i = 0; i < persons.size(); i++) {
            persons.get(i).leads = false;
        }
        turned.leads = true;
        for (int i = turned.number + 1; i < persons.size(); i++) {
            Person child = persons.get(i);
            Person leader = child.leader();
            boolean follows = leader != null && leader.leads && child.lives
                    && child.isMinorOn(today) && child.faithNow() != faith;
            if (follows) {
                child.faiths.tell(today, faith);
                child.leads = true;
            }
        }
    }

    // ---- marriages and estates

    private boolean mayMarry(Person husband, Person wife, Law law) {
        return howManyLast(wife) == 0
                && howManyLast(husband) < law.numberOn(MOST_WIVES, today)
                && (husband.faithNow() == wife.faithNow() || law.numberOn(TAKES_MIXED, today) == 1);
    }

    private int howManyLast(Person person) {
        int count = 0;
        for (int i = 0; i < marriages.size(); i++) {
            if (marriages.get(i).lastsFor(person)) {
                count++;
            }
        }
        return count;
    }

    private int lowestThatLasts(Person person) {
        for (int i = 0; i < marriages.size(); i++) {
            if (marriages.get(i).lastsFor(person)) {
                return i;
            }
        }
        return NONE;
    }

    private static boolean endsByAsking(Marriage marriage, boolean byHusband, int divorces) {
        switch (divorces) {
            case HUSBAND:
                return byHusband;
            case EITHER:
                return true;
            case BOTH:
                return marriage.hasHusbandAsked && marriage.hasWifeAsked;
            default:
                return false;
        }
    }

    /** Pays the dowers of a dead husband too, as these go ahead of all that is left. */
    private ArrayList<Person> endMarriagesOf(Person dead) {
        ArrayList<Person> spouses = new ArrayList<Person>();
        for (int i = 0; i < marriages.size(); i++) {
            Marriage marriage = marriages.get(i);
            if (marriage.lastsFor(dead)) {
                marriage.status = WIDOWED;
                if (marriage.husband == dead) {
                    marriage.payDower();
                    spouses.add(marriage.wife);
                } else {
                    marriage.owed = 0;
                    spouses.add(marriage.husband);
                }
            }
        }
        return spouses;
    }

    private ArrayList<Person> livingChildrenOf(Person parent) {
        ArrayList<Person> children = new ArrayList<Person>();
        for (int i = 0; i < persons.size(); i++) {
            if (persons.get(i).isLivingChildOf(parent)) {
                children.add(persons.get(i));
            }
        }
        return children;
    }

    private int howManyChildrenLive(Person parent) {
        int count = 0;
        for (int i = 0; i < persons.size(); i++) {
            if (persons.get(i).isLivingChildOf(parent)) {
                count++;
            }
        }
        return count;
    }

    private static void removeOtherFaiths(ArrayList<Person> heirs, int faith) {
        for (int i = heirs.size() - 1; i >= 0; i--) {
            if (heirs.get(i).faithNow() != faith) {
                heirs.remove(i);
            }
        }
    }

    private long leaveEstate(Person dead, ArrayList<Person> spouses, ArrayList<Person> children, Law law) {
        long rest = dead.goods;
        dead.goods = 0;
        if (!spouses.isEmpty()) {
            long part = rest * law.numberOn(WIDOWS_PART, today) / 100;
            divide(part, spouses, false);
            rest -= part;
        }
        if (children.isEmpty()) {
            crownGoods += rest;
            return rest;
        }
        int shares = law.numberOn(SHARES, today);
        if (shares == FIRST) {
            lowestOf(children).goods += rest;
        } else {
            divide(rest, children, shares == DOUBLE);
        }
        return 0;
    }

    private static void divide(long goods, ArrayList<Person> heirs, boolean doublesSons) {
        if (heirs.isEmpty()) {
            return;
        }
        int shares = 0;
        for (int i = 0; i < heirs.size(); i++) {
            shares += heirs.get(i).shares(doublesSons);
        }
        long share = goods / Math.max(shares, 1);
        for (int i = 0; i < heirs.size(); i++) {
            heirs.get(i).goods += share * heirs.get(i).shares(doublesSons);
        }
        lowestOf(heirs).goods += goods - share * shares;
    }

    private static Person lowestOf(ArrayList<Person> heirs) {
        Person lowest = heirs.get(0);
        for (int i = 1; i < heirs.size(); i++) {
            if (heirs.get(i).number < lowest.number) {
                lowest = heirs.get(i);
            }
        }
        return lowest;
    }

    // ---- suits

    private boolean isSeisedBetween(Person one, Person other) {
        for (int i = 0; i < suits.size(); i++) {
            Suit suit = suits.get(i);
            if (suit.status == SEISED && suit.isBetween(one) && suit.isBetween(other)) {
                return true;
            }
        }
        return false;
    }

    private boolean isWonBefore(Suit suit, Law law) {
        int heardWholly = law.numberOn(HEARS_WHOLLY, today);
        int weightFor = 0;
        int weightAgainst = 0;
        for (int i = 0; i < suit.witnesses.size(); i++) {
            Witness witness = suit.witnesses.get(i);
            int weight = 1 + ((heardWholly >> witness.person.faithNow()) & 1);
            if (witness.isFor) {
                weightFor += weight;
            } else {
                weightAgainst += weight;
            }
        }
        return weightFor > weightAgainst && weightFor >= WEIGHT_TO_WIN;
    }

    /** A number that is told anew from days on; the days only ever go up. */
    private static final class Chronicle {
        private int[] days = new int[2];
        private int[] numbers = new int[2];
        private int count = 1;

        Chronicle(int day, int number) {
            days[0] = day;
            numbers[0] = number;
        }

        int numberOn(int day) {
            for (int i = count - 1; i > 0; i--) {
                if (days[i] <= day) {
                    return numbers[i];
                }
            }
            return numbers[0];
        }

        int newest() {
            return numbers[count - 1];
        }

        int newestDay() {
            return days[count - 1];
        }

        boolean goesBackBy(int number) {
            return count > 1 && numbers[count - 2] == number;
        }

        void dropNewest() {
            if (count > 1) {
                count--;
            }
        }

        void tell(int day, int number) {
            if (days[count - 1] != day) {
                makeRoom();
                days[count] = day;
                count++;
            }
            numbers[count - 1] = number;
        }

        private void makeRoom() {
            if (count == days.length) {
                days = Arrays.copyOf(days, 2 * count);
                numbers = Arrays.copyOf(numbers, 2 * count);
            }
        }
    }

    private static final class Law {
        final Chronicle[] numbers = chroniclesFrom(LAWS_AT_FIRST);

        int numberOn(int what, int day) {
            return numbers[what].numberOn(day);
        }
    }

    private static final class Community {
        final Law law = new Law();
        final Chronicle recognition;

        Community(int day) {
            recognition = new Chronicle(day, 1);
        }
    }

    private static final class Person {
        final int number;
        final boolean isMan;
        final Person mother;
        final Person father;
        final int birthday;
        final Chronicle faiths;
        boolean lives = true;
        long goods = 0;
        int turnsTo = NONE;
        int turnsOn = NONE;
        /** Whether its children follow it into the faith that is taken just now. */
        boolean leads = false;

        Person(int number, boolean isMan, Person mother, Person father, int birthday, int faith) {
            this.number = number;
            this.isMan = isMan;
            this.mother = mother;
            this.father = father;
            this.birthday = birthday;
            this.faiths = new Chronicle(birthday, faith);
        }

        int faithNow() {
            return faiths.newest();
        }

        boolean isMinorOn(int day) {
            return day - birthday < DAYS_OF_A_MINOR;
        }

        boolean isGrownOn(int day) {
            return lives && !isMinorOn(day);
        }

        boolean isTurning() {
            return turnsOn != NONE;
        }

        void endTurning() {
            turnsTo = NONE;
            turnsOn = NONE;
        }

        /** The father leads even when he is dead: then nobody does. */
        Person leader() {
            return father != null ? father : mother;
        }

        boolean isLivingChildOf(Person parent) {
            return lives && (mother == parent || father == parent);
        }

        int shares(boolean doublesSons) {
            return doublesSons && isMan ? 2 : 1;
        }

        int payUpTo(int owed, Person other) {
            int paid = (int) Math.min(goods, owed);
            goods -= paid;
            other.goods += paid;
            return paid;
        }
    }

    private static final class Marriage {
        final Person husband;
        final Person wife;
        final int court;
        int status = LASTS;
        int owed;
        boolean hasHusbandAsked = false;
        boolean hasWifeAsked = false;

        Marriage(Person husband, Person wife, int dower, int court) {
            this.husband = husband;
            this.wife = wife;
            this.owed = dower;
            this.court = court;
        }

        boolean lastsFor(Person person) {
            return status == LASTS && (husband == person || wife == person);
        }

        /** What the husband lacks is not owed any more. */
        void payDower() {
            husband.payUpTo(owed, wife);
            owed = 0;
        }
    }

    private static final class Suit {
        final Person plaintiff;
        final Person defendant;
        final int court;
        final int cents;
        final ArrayList<Witness> witnesses = new ArrayList<Witness>();
        int status = SEISED;
        /** Kept from the call that told the suit: what is told later alters nothing of it. */
        boolean canJudge = false;
        int owed = 0;
        int judgedOn = NONE;
        boolean wasAppealed = false;

        Suit(Person plaintiff, Person defendant, int court, int cents) {
            this.plaintiff = plaintiff;
            this.defendant = defendant;
            this.court = court;
            this.cents = cents;
        }

        boolean isBetween(Person person) {
            return plaintiff == person || defendant == person;
        }

        boolean doBothLive() {
            return plaintiff.lives && defendant.lives;
        }

        boolean hasHeard(Person person) {
            for (int i = 0; i < witnesses.size(); i++) {
                if (witnesses.get(i).person == person) {
                    return true;
                }
            }
            return false;
        }

        void settle(boolean isWon, int day) {
            status = isWon ? WON : LOST;
            judgedOn = day;
        }

        void giveBack() {
            if (doBothLive()) {
                plaintiff.payUpTo(cents - owed, defendant);
            }
            owed = 0;
        }
    }

    private static final class Witness {
        final Person person;
        final boolean isFor;

        Witness(Person person, boolean isFor) {
            this.person = person;
            this.isFor = isFor;
        }
    }
}

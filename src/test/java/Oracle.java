import java.util.Arrays;
import java.util.TreeMap;
import java.util.TreeSet;

/**
 * A second empire, for comparing: it writes every law, rule, recognition and faith down for each day anew, and
 * looks through all of it whenever it is asked.
 */
final class Oracle {
    private static final int DAYS = 30001;
    private static final int[] LOW = {0, 0, 1, 0, 0, 0, 0};
    private static final int[] HIGH = {2, 3, 4, 100, 1, 1, 63};

    /** Row 0 is the crown's. */
    private final byte[][][] laws = new byte[7][7][DAYS];
    private final byte[][] recognised = new byte[6][DAYS];
    private final byte[][] rules = new byte[4][DAYS];
    private final byte[][] faiths = new byte[40][DAYS];
    private final int[][] person = new int[40][];
    private final int[][] marriage = new int[30][];
    private final int[][] suit = new int[20][];
    private final int[][] words = new int[20][40];
    private final long[] purse = new long[41];
    private int communities, persons, marriages, suits, decrees, told, today;

    private static final int MAN = 0, MOTHER = 1, FATHER = 2, BORN = 3, ALIVE = 4, TURNS_TO = 5, TURNS_ON = 6;
    private static final int STATUS = 0, HUSBAND = 1, WIFE = 2, OWED = 3, COURT = 4, ASKED = 5;
    private static final int S_STATUS = 0, S_COURT = 1, S_OWED = 3, S_DAY = 4, S_ONE = 5, S_OTHER = 6, S_CENTS = 7,
            S_CAN = 8, S_APPEALED = 9;

    Oracle() {
        byte[] first = {0, 2, 1, 25, 1, 0, 63};
        for (int c = 0; c < 7; c++) {
            for (int w = 0; w < 7; w++) {
                laws[c][w][0] = first[w];
            }
        }
        rules[3][0] = 1;
    }

    private static void index(boolean isFine) {
        if (!isFine) {
            throw new IndexOutOfBoundsException();
        }
    }

    private static void argument(boolean isFine) {
        if (!isFine) {
            throw new IllegalArgumentException();
        }
    }

    private static void state(boolean isFine) {
        if (!isFine) {
            throw new IllegalStateException();
        }
    }

    private static boolean in(int number, int low, int high) {
        return low <= number && number <= high;
    }

    private void people(int... numbers) {
        for (int number : numbers) {
            index(in(number, 0, persons - 1));
        }
    }

    private boolean minor(int p) {
        return in(today, person[p][BORN], person[p][BORN] + 4999);
    }

    private boolean grown(int p) {
        return person[p][ALIVE] == 1 && !minor(p);
    }

    private int now(int p) {
        return faiths[p][today];
    }

    private int lawNow(int court, int what) {
        return laws[court + 1][what][today];
    }

    public int community() {
        state(communities < 6);
        recognised[communities][today] = 1;
        return communities++;
    }

    public boolean recognise(int c, boolean isOn) {
        index(in(c, 0, communities - 1));
        boolean was = recognised[c][today] == 1;
        recognised[c][today] = (byte) (isOn ? 1 : 0);
        return was;
    }

    public int decree(int c, int what, int number) {
        index(in(c, -1, communities - 1));
        argument(in(what, 0, 6) && in(number, LOW[what], HIGH[what]));
        state(decrees < 100);
        decrees++;
        int before = lawNow(c, what);
        laws[c + 1][what][today] = (byte) number;
        return before;
    }

    public int rule(int matter, int rule) {
        argument(in(matter, 0, 3) && in(rule, 0, 3));
        state(told < 40);
        told++;
        int before = rules[matter][today];
        rules[matter][today] = (byte) rule;
        return before;
    }

    public int law(int c, int what, int day) {
        index(in(c, -1, communities - 1));
        argument(in(what, 0, 6) && in(day, 0, today));
        return laws[c + 1][what][day];
    }

    public int court(int matter, int one, int other, int day) {
        people(one, other);
        argument(in(matter, 0, 3) && day <= today && day >= person[one][BORN] && day >= person[other][BORN]);
        int a = faiths[one][day];
        int b = faiths[other][day];
        int[] byRule = {a, b, a == b ? a : -1, -1};
        int court = byRule[rules[matter][day]];
        return court >= 0 && recognised[court][day] == 1 ? court : -1;
    }

    public int person(boolean isMan, int mother, int father, int faith) {
        index(in(mother, -1, persons - 1) && in(father, -1, persons - 1) && in(faith, -1, communities - 1));
        argument(mother == -1 || person[mother][MAN] == 0);
        argument(father == -1 || person[father][MAN] == 1);
        argument((mother == -1 && father == -1) != (faith == -1));
        state(persons < 40);
        int has = father != -1 ? now(father) : mother != -1 ? now(mother) : faith;
        person[persons] = new int[] {isMan ? 1 : 0, mother, father, today, 1, -1, -1};
        faiths[persons][today] = (byte) has;
        return persons++;
    }

    public int turn(int p, int c, int one, int other) {
        index(in(c, 0, communities - 1));
        people(p, one, other);
        argument(new TreeSet<>(Arrays.asList(p, one, other)).size() == 3);
        state(grown(p) && now(p) != c && person[p][TURNS_ON] == -1);
        state(grown(one) && grown(other) && now(one) == c && now(other) == c);
        person[p][TURNS_TO] = c;
        person[p][TURNS_ON] = today + 30;
        return today + 30;
    }

    public int recant(int p) {
        people(p);
        state(person[p][TURNS_ON] != -1);
        person[p][TURNS_ON] = -1;
        return person[p][TURNS_TO];
    }

    public int faith(int p, int day) {
        people(p);
        argument(in(day, person[p][BORN], today));
        return faiths[p][day];
    }

    public int marry(int husband, int wife, int dower) {
        people(husband, wife);
        argument(person[husband][MAN] == 1 && person[wife][MAN] == 0 && in(dower, 0, 1000000));
        state(grown(husband) && grown(wife) && marriages < 30);
        int court = court(0, husband, wife, today);
        state(lasting(wife).isEmpty() && lasting(husband).size() < lawNow(court, 2));
        state(now(husband) == now(wife) || lawNow(court, 4) == 1);
        marriage[marriages] = new int[] {0, husband, wife, dower, court, 0};
        return marriages++;
    }

    private TreeSet<Integer> lasting(int p) {
        TreeSet<Integer> found = new TreeSet<>();
        for (int m = 0; m < marriages; m++) {
            if (marriage[m][STATUS] == 0 && (marriage[m][HUSBAND] == p || marriage[m][WIFE] == p)) {
                found.add(m);
            }
        }
        return found;
    }

    private long move(int from, int to, long most) {
        long moved = purse[from] < most ? purse[from] : most;
        purse[from] -= moved;
        purse[to] += moved;
        return moved;
    }

    public boolean divorce(int m, boolean byHusband) {
        index(in(m, 0, marriages - 1));
        state(marriage[m][STATUS] == 0);
        marriage[m][ASKED] |= byHusband ? 1 : 2;
        int kind = lawNow(court(1, marriage[m][HUSBAND], marriage[m][WIFE], today), 1);
        boolean[] ends = {byHusband, true, marriage[m][ASKED] == 3, false};
        if (ends[kind]) {
            marriage[m][STATUS] = 1;
            move(marriage[m][HUSBAND], marriage[m][WIFE], marriage[m][OWED]);
            marriage[m][OWED] = 0;
        }
        return ends[kind];
    }

    public long goods(int p, int cents) {
        people(p);
        argument(in(cents, 1, 1000000));
        state(person[p][ALIVE] == 1);
        return purse[p] += cents;
    }

    public long dies(int dead) {
        people(dead);
        state(person[dead][ALIVE] == 1);
        int court = court(2, dead, dead, today);
        person[dead][ALIVE] = 0;
        person[dead][TURNS_ON] = -1;
        TreeMap<Integer, Integer> widowed = new TreeMap<>();
        for (int m : lasting(dead)) {
            boolean isHusband = marriage[m][HUSBAND] == dead;
            int spouse = marriage[m][isHusband ? WIFE : HUSBAND];
            move(dead, spouse, isHusband ? marriage[m][OWED] : 0);
            marriage[m][OWED] = 0;
            marriage[m][STATUS] = 2;
            widowed.put(spouse, 1);
        }
        TreeMap<Integer, Integer> children = new TreeMap<>();
        for (int p = 0; p < persons; p++) {
            if (person[p][ALIVE] == 1 && (person[p][MOTHER] == dead || person[p][FATHER] == dead)) {
                children.put(p, lawNow(court, 0) == 1 ? person[p][MAN] + 1 : 1);
            }
        }
        if (lawNow(court, 5) == 1) {
            widowed.keySet().removeIf(p -> now(p) != now(dead));
            children.keySet().removeIf(p -> now(p) != now(dead));
        }
        if (lawNow(court, 0) == 2 && !children.isEmpty()) {
            children = new TreeMap<>(children.headMap(children.firstKey(), true));
        }
        long left = purse[dead];
        purse[dead] = 0;
        long part = widowed.isEmpty() ? 0 : left * lawNow(court, 3) / 100;
        share(part, widowed);
        share(left - part, children);
        long toCrown = children.isEmpty() ? left - part : 0;
        purse[40] += toCrown;
        return toCrown;
    }

    private void share(long goods, TreeMap<Integer, Integer> shares) {
        long sum = 0;
        for (int s : shares.values()) {
            sum += s;
        }
        long left = goods;
        for (int p : shares.keySet()) {
            purse[p] += goods / sum * shares.get(p);
            left -= goods / sum * shares.get(p);
        }
        if (!shares.isEmpty()) {
            purse[shares.firstKey()] += left;
        }
    }

    public int sue(int one, int other, int court, int cents) {
        people(one, other);
        index(in(court, -1, communities - 1));
        argument(one != other && in(cents, 1, 1000000));
        state(person[one][ALIVE] == 1 && person[other][ALIVE] == 1 && suits < 20);
        boolean isVoid = false;
        for (int s = 0; s < suits; s++) {
            isVoid |= suit[s][S_STATUS] == 0 && Math.min(suit[s][S_ONE], suit[s][S_OTHER]) == Math.min(one, other)
                    && Math.max(suit[s][S_ONE], suit[s][S_OTHER]) == Math.max(one, other);
        }
        int can = court(3, one, other, today) == court ? 1 : 0;
        suit[suits] = new int[] {isVoid ? 1 : 0, court, 0, 0, -1, one, other, cents, can, 0};
        return suits++;
    }

    private void seised(int s) {
        state(suit[s][S_STATUS] == 0);
    }

    public boolean appear(int s) {
        index(in(s, 0, suits - 1));
        seised(s);
        state(person[suit[s][S_OTHER]][ALIVE] == 1);
        boolean couldNot = suit[s][S_CAN] == 0;
        suit[s][S_CAN] = 1;
        return couldNot;
    }

    public int testify(int s, int p, boolean isFor) {
        index(in(s, 0, suits - 1));
        people(p);
        seised(s);
        state(grown(p) && suit[s][S_ONE] != p && suit[s][S_OTHER] != p && words[s][p] == 0);
        words[s][p] = isFor ? 1 : -1;
        return ofSuit(s, 2);
    }

    public boolean wins(int s, int court) {
        index(in(s, 0, suits - 1) && in(court, -1, communities - 1));
        int lead = 0;
        int weightFor = 0;
        for (int p = 0; p < persons; p++) {
            int weight = 1 + (lawNow(court, 6) / (1 << now(p))) % 2;
            lead += weight * words[s][p];
            weightFor += words[s][p] == 1 ? weight : 0;
        }
        return lead > 0 && weightFor >= 4;
    }

    public boolean judge(int s) {
        index(in(s, 0, suits - 1));
        seised(s);
        state(suit[s][S_CAN] == 1);
        return settle(s, wins(s, suit[s][S_COURT]));
    }

    private boolean settle(int s, boolean isWon) {
        if (isWon && suit[s][S_STATUS] != 2) {
            suit[s][S_OWED] = suit[s][S_CENTS];
        }
        suit[s][S_STATUS] = isWon ? 2 : 3;
        suit[s][S_DAY] = today;
        return isWon;
    }

    public boolean appeal(int s) {
        index(in(s, 0, suits - 1));
        state(suit[s][S_STATUS] >= 2 && suit[s][S_COURT] != -1 && suit[s][S_APPEALED] == 0);
        state(today <= suit[s][S_DAY] + 60);
        suit[s][S_APPEALED] = 1;
        boolean wasWon = suit[s][S_STATUS] == 2;
        boolean isWon = settle(s, wins(s, -1));
        if (wasWon && !isWon) {
            boolean live = person[suit[s][S_ONE]][ALIVE] + person[suit[s][S_OTHER]][ALIVE] == 2;
            move(suit[s][S_ONE], suit[s][S_OTHER], live ? suit[s][S_CENTS] - suit[s][S_OWED] : 0);
            suit[s][S_OWED] = 0;
        }
        return isWon;
    }

    public long execute(int s) {
        index(in(s, 0, suits - 1));
        state(suit[s][S_STATUS] == 2 && suit[s][S_OWED] > 0);
        state(person[suit[s][S_ONE]][ALIVE] == 1 && person[suit[s][S_OTHER]][ALIVE] == 1);
        long moved = move(suit[s][S_OTHER], suit[s][S_ONE], suit[s][S_OWED]);
        suit[s][S_OWED] -= (int) moved;
        return moved;
    }

    public long ofPerson(int p, int what) {
        people(p);
        argument(in(what, 0, 5));
        TreeSet<Integer> lasting = lasting(p);
        int children = 0;
        for (int c = 0; c < persons; c++) {
            children += person[c][MOTHER] == p || person[c][FATHER] == p ? person[c][ALIVE] : 0;
        }
        return new long[] {purse[p], person[p][ALIVE], lasting.size(), person[p][TURNS_ON],
            lasting.isEmpty() ? -1 : lasting.first(), children}[what];
    }

    public int ofMarriage(int m, int what) {
        index(in(m, 0, marriages - 1));
        argument(in(what, 0, 4));
        return marriage[m][what];
    }

    public int ofSuit(int s, int what) {
        index(in(s, 0, suits - 1));
        argument(in(what, 0, 4));
        if (what == 2) {
            return (int) Arrays.stream(words[s]).filter(w -> w != 0).count();
        }
        return suit[s][what];
    }

    public long treasury() {
        return purse[40];
    }

    public long all() {
        return Arrays.stream(purse).sum();
    }

    public int pass(int days) {
        argument(in(days, 1, 2000));
        state(today + days <= 30000);
        for (int i = 0; i < days; i++) {
            dawn();
        }
        return today;
    }

    private void dawn() {
        today++;
        for (byte[][][] tables : new byte[][][][] {laws, {recognised, rules, faiths}}) {
            for (byte[][] table : tables) {
                for (byte[] row : table) {
                    row[today] = row[today - 1];
                }
            }
        }
        for (int p = 0; p < persons; p++) {
            if (person[p][TURNS_ON] == today) {
                person[p][TURNS_ON] = -1;
                take(p, person[p][TURNS_TO]);
            }
        }
    }

    private void take(int p, int faith) {
        int since = today;
        while (since > person[p][BORN] && faiths[p][since - 1] == now(p)) {
            since--;
        }
        boolean undone = since > person[p][BORN] && faiths[p][since - 1] == faith && today - since < 100;
        Arrays.fill(faiths[p], undone ? since : today, today + 1, (byte) faith);
        lead(p, faith);
    }

    private void lead(int p, int faith) {
        for (int c = 0; c < persons; c++) {
            boolean led = person[c][FATHER] == p || person[c][FATHER] == -1 && person[c][MOTHER] == p;
            if (led && person[c][ALIVE] == 1 && minor(c) && now(c) != faith) {
                faiths[c][today] = (byte) faith;
                lead(c, faith);
            }
        }
    }

    int persons() {
        return persons;
    }

    int marriages() {
        return marriages;
    }

    int suits() {
        return suits;
    }

    int communities() {
        return communities;
    }

    int today() {
        return today;
    }

    int born(int p) {
        return person[p][BORN];
    }
}

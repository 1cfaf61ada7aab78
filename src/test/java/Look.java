/**
 * All that an empire answers from here on, as one text: first what can be asked of it, then what calls come to that
 * show what it keeps to itself. Two empires that differ in anything should differ in this text.
 */
final class Look {
    private final Milletcourt x;
    private final StringBuilder seen = new StringBuilder();
    private int left;
    private int today;
    private int communities;
    private int persons;
    private int marriages;
    private int suits;

    private Look(Milletcourt x, int calls) {
        this.x = x;
        this.left = calls;
    }

    /** An object is good for 512 calls, so how many of them are left has to be told. */
    static String at(Milletcourt x, int calls) {
        Look look = new Look(x, calls);
        look.day();
        look.people();
        look.communities();
        look.matters();
        look.courts();
        look.divorces();
        look.judgments();
        look.daysOn();
        look.rooms();
        return look.seen.toString();
    }

    private interface Call {
        Object run();
    }

    /** Tells whether the call was answered, not refused. */
    private boolean tell(String name, Call call) {
        if (left == 0) {
            return false;
        }
        left--;
        try {
            seen.append(name).append(": ").append(call.run()).append('\n');
            return true;
        } catch (IndexOutOfBoundsException | IllegalArgumentException | IllegalStateException e) {
            seen.append(name).append(": ").append(e.getClass().getSimpleName()).append('\n');
            return false;
        }
    }

    private void day() {
        int beyond = 30001;
        while (beyond - today > 1) {
            int middle = (today + beyond) / 2;
            if (tell("law on day " + middle, () -> x.law(-1, 0, middle))) {
                today = middle;
            } else {
                beyond = middle;
            }
        }
        tell("treasury", () -> x.treasury());
        tell("all", () -> x.all());
    }

    private void people() {
        while (tell("goods of person " + persons, () -> x.ofPerson(persons, 0))) {
            for (int what = 1; what < 6; what++) {
                int w = what;
                tell("of person " + persons + ", " + w, () -> x.ofPerson(persons, w));
            }
            tell("faith of person " + persons, () -> x.faith(persons, today));
            persons++;
        }
    }

    private void communities() {
        while (tell("shares by law " + (communities - 1), () -> x.law(communities - 1, 0, today))) {
            for (int what = 1; what < 7; what++) {
                int w = what;
                tell("law " + (communities - 1) + ", " + w, () -> x.law(communities - 1, w, today));
            }
            communities++;
        }
        communities = Math.max(0, communities - 1);
    }

    private void matters() {
        while (tell("status of marriage " + marriages, () -> x.ofMarriage(marriages, 0))) {
            for (int what = 1; what < 5; what++) {
                int w = what;
                tell("of marriage " + marriages + ", " + w, () -> x.ofMarriage(marriages, w));
            }
            marriages++;
        }
        while (tell("status of suit " + suits, () -> x.ofSuit(suits, 0))) {
            for (int what = 1; what < 5; what++) {
                int w = what;
                tell("of suit " + suits + ", " + w, () -> x.ofSuit(suits, w));
            }
            suits++;
        }
    }

    private void courts() {
        for (int matter = 0; matter < 4; matter++) {
            int m = matter;
            tell("court of matter " + m, () -> x.court(m, 0, persons - 1, today));
            tell("rule of matter " + m, () -> x.rule(m, 1));
        }
        for (int community = 0; community < communities; community++) {
            int c = community;
            tell("recognition of " + c, () -> x.recognise(c, true));
        }
    }

    private void divorces() {
        for (int marriage = 0; marriage < marriages; marriage++) {
            int m = marriage;
            tell("her asking in marriage " + m, () -> x.divorce(m, false));
            tell("his asking in marriage " + m, () -> x.divorce(m, true));
        }
    }

    private void judgments() {
        for (int suit = 0; suit < suits; suit++) {
            int s = suit;
            tell("winning suit " + s, () -> x.wins(s, -1));
            tell("judging suit " + s, () -> x.judge(s));
            tell("appearing in suit " + s, () -> x.appear(s));
            tell("executing suit " + s, () -> x.execute(s));
            tell("appeal of suit " + s, () -> x.appeal(s));
            tell("executing suit again " + s, () -> x.execute(s));
        }
    }

    private void daysOn() {
        tell("30 days", () -> x.pass(30));
        for (int person = 0; person < persons; person++) {
            int p = person;
            tell("faith days on of person " + p, () -> x.faith(p, today + 30));
        }
        tell("all, days on", () -> x.all());
    }

    /** Each of these ends where the document's limit is, or where the calls are used up. */
    private void rooms() {
        boolean isRoom = true;
        for (int i = 0; isRoom && i < 7; i++) {
            isRoom = tell("one community more", () -> x.community());
        }
        isRoom = true;
        for (int i = 0; isRoom && i < 41; i++) {
            isRoom = tell("one person more", () -> x.person(true, -1, -1, 0));
        }
        isRoom = true;
        for (int i = 0; isRoom && i < 41; i++) {
            isRoom = tell("one rule more", () -> x.rule(0, 0));
        }
        isRoom = true;
        for (int i = 0; isRoom && i < 101; i++) {
            isRoom = tell("one decree more", () -> x.decree(-1, 0, 0));
        }
    }
}

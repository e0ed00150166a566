/** Promises 17 to 32: questions of the jars as they are now. */
public final class QuestionTest {
    private static final Check CHECK = new Check("QuestionTest");

    public static void main(String[] args) {
        mixtures();
        bestMix();
        coalitions();
        agreement();
        covering();
        planning();
        planByRoom();
        planAgain();
        tasting();
        nextTaste();
        harmAndArranged();
        arrangedByOrder();
        falling();
        votes();
        wars();
        CHECK.end();
    }

    private static String jar(int place, int spoons, int seal, String views) {
        return "jar honey at " + place + " spoons " + spoons + " sour 0 seal " + seal + " views " + views;
    }

    private static JarCabinet views(String... views) {
        JarCabinet x = new JarCabinet();
        for (int k = 0; k < views.length; k++) {
            Check.cabinet(x, jar(k, 1, 1, views[k]));
        }
        return x;
    }

    private static void mixtures() {
        JarCabinet x = views("904950", "554454");
        int[] due = {7, 0, 4, 0, 5, 2};
        for (int matter = 0; matter < 6; matter++) {
            int m = matter;
            CHECK.due("mixture of " + m, due[m], () -> x.mixture(0, 1, m));
            CHECK.due("mixture turned round", due[m], () -> x.mixture(1, 0, m));
        }
        CHECK.argument("both are one", () -> x.mixture(1, 1, 0));
        CHECK.index("no matter, told first", () -> x.mixture(1, 1, 6));
        CHECK.index("no jar", () -> x.mixture(2, 2, 0));
        CHECK.index("no other", () -> x.mixture(0, 2, 0));
        CHECK.index("matter -1", () -> x.mixture(0, 1, -1));
        Check.law(x, "add 1 if jar>0");
        CHECK.due("by advice", 4, () -> x.mixture(0, 1, 2));
        CHECK.due("by advice", 7, () -> x.mixture(0, 1, 0));
        CHECK.due("4 and 5: a clash by advice", 0, () -> x.mixture(0, 1, 5));
        CHECK.due("nothing is done", 0, () -> x.count(12));
    }

    private static void bestMix() {
        JarCabinet x = views("200000", "600000", "400000", "700000");
        // of jars 0 and 1: 4, 0 and 2: 3, 0 and 3: 0 (a clash), 1 and 2: 5, 1 and 3: 6, 2 and 3: 5
        int[] due = {3, 3, 2, 2, 1, 12, 13, 13, 13, 13};
        for (int number = 0; number < 10; number++) {
            int n = number;
            CHECK.due("best " + n, due[n], () -> x.best(0, n));
        }
        CHECK.due("of several the first", 1, () -> x.best(1, 9));
        CHECK.index("no matter, told first", () -> x.best(6, 10));
        CHECK.index("matter -1", () -> x.best(-1, 0));
        CHECK.argument("number 10", () -> x.best(0, 10));
        CHECK.argument("number -1", () -> x.best(0, -1));
        CHECK.due("fewer than two", -1, () -> views("123456").best(0, 0));
        CHECK.argument("fewer than two, no number", () -> views().best(0, 10));
    }

    private static void coalitions() {
        CHECK.due("none", 0, () -> views().coalition());
        CHECK.due("one", 1, () -> views("999999").coalition());
        CHECK.due("of several the least", 1, () -> views("000000", "000005", "500000").coalition());
        CHECK.due("the most", 6, () -> views("000000", "005000", "005000").coalition());
        CHECK.due("two of each: the least", 5,
                () -> views("000000", "900000", "000000", "900000").coalition());
        CHECK.due("none clash", 15, () -> views("000000", "444444", "040404", "404040").coalition());
        JarCabinet x = views("000000", "005000", "005000");
        Check.law(x, "less 1");
        CHECK.due("by advice", 7, () -> x.coalition());
    }

    private static void agreement() {
        JarCabinet x = views("123456", "123000", "120406");
        CHECK.due("two", 7, () -> x.agree(3));
        CHECK.due("two others", 43, () -> x.agree(5));
        CHECK.due("all", 3, () -> x.agree(7));
        CHECK.due("one", 63, () -> x.agree(4));
        CHECK.due("none", 63, () -> x.agree(0));
        CHECK.due("bits of none count for nothing", 3, () -> x.agree(-1));
        CHECK.due("bits of none alone", 63, () -> x.agree(-8));
        CHECK.due("bits of none beside", 7, () -> x.agree(3 | 1 << 30));
        Check.law(x, "add 9");
        CHECK.due("by advice", 63, () -> x.agree(7));
    }

    private static void covering() {
        JarCabinet x = views("900000", "099000", "000999", "999000", "990999");
        CHECK.due("two, the least as bits", 12, () -> x.cover(9));
        CHECK.due("likewise", 12, () -> x.cover(1));
        CHECK.due("0: the first jar", 1, () -> x.cover(0));
        CHECK.argument("number 10", () -> x.cover(10));
        CHECK.argument("number -1", () -> x.cover(-1));
        CHECK.due("both together", 3, () -> views("999990", "999909").cover(9));
        CHECK.due("none", -1, () -> views("899999", "799999").cover(9));
        CHECK.due("no jar", -1, () -> views().cover(0));
        JarCabinet y = views("888888");
        Check.law(y, "add 1");
        CHECK.due("by advice", 1, () -> y.cover(9));
    }

    private static void planning() {
        JarCabinet x = Check.with(jar(0, 1, 0, "990000") + ";" + jar(1, 1, 0, "900000")
                + ";need 0 0 9;need 0 1 9;need 1 0 9;need 50 0 1;need 0 5 9");
        // jar 0 can 0, 1, 2 and jar 1 can 0, 2, with a spoon each
        CHECK.due("the least of the largest", 3, () -> x.plan());
        CHECK.due("unmet", 3, () -> x.unmet());
        x.ask(0, 0);
        CHECK.due("a spoon less", 1, () -> x.plan());
        CHECK.due("none can answer need 1", 1, () -> x.unmet());
        x.years(1);
        CHECK.due("gone by", 4, () -> x.plan());
        CHECK.due("need 0 is gone by", 0, () -> x.unmet());
        CHECK.due("no need", 0, () -> views("999999").plan());
        CHECK.due("no need", -1, () -> views("999999").unmet());
        JarCabinet y = Check.with(jar(0, 1, 0, "990000") + ";need 0 0 1;need 0 0 1");
        CHECK.due("unmet looks at each alone", -1, () -> y.unmet());
        CHECK.due("one spoon, one need", 1, () -> y.plan());
    }

    private static void planByRoom() {
        // need 0 first goes to jar 0 and has to make room, twice
        JarCabinet x = Check.with(jar(0, 1, 0, "999000") + ";" + jar(1, 1, 0, "909000") + ";"
                + jar(2, 1, 0, "900000") + ";need 0 0 9;need 0 2 9;need 0 1 9");
        CHECK.due("all can be met", 7, () -> x.plan());
        JarCabinet y = Check.with(jar(0, 2, 0, "900000") + ";need 0 0 9;need 3 0 9;need 2 0 9");
        CHECK.due("as many as spoons now", 3, () -> y.plan());
        JarCabinet z = Check.with(jar(0, 2, 0, "900000") + ";need 3 0 9;need 0 0 9;need 2 0 9");
        Check.law(z, "pop if year>1");
        CHECK.due("popped by then", 6, () -> z.plan());
        CHECK.due("popped by then", 0, () -> z.unmet());
    }

    private static Object taste(JarCabinet x, boolean otherwise, int... bytes) {
        return Check.feed(x, asBytes(bytes)).tastes(otherwise);
    }

    private static byte[] asBytes(int... bytes) {
        byte[] b = new byte[bytes.length];
        for (int i = 0; i < b.length; i++) {
            b[i] = (byte) bytes[i];
        }
        return b;
    }

    private static void tasting() {
        JarCabinet x = views("123456", "123000", "120406");
        CHECK.due("none told", 7, () -> taste(x, false));
        CHECK.due("one", 7, () -> taste(x, false, 0, 1));
        CHECK.due("one", 3, () -> taste(x, false, 2, 3));
        CHECK.due("two", 1, () -> taste(x, false, 2, 3, 5, 6));
        CHECK.due("none is so", 0, () -> taste(x, false, 2, 3, 5, 5));
        CHECK.due("all but one", 7, () -> taste(x, true, 2, 3, 5, 6));
        CHECK.due("all but one", 5, () -> taste(x, true, 2, 0, 5, 6, 3, 4));
        CHECK.due("one told twice counts twice", 4, () -> taste(x, true, 2, 0, 2, 0));
        CHECK.due("the tape is used up", false, () -> x.end(1));
        CHECK.argument("an odd byte", () -> taste(x, false, 0));
        CHECK.due("the tape is used up", false, () -> x.end(1));
        CHECK.argument("no matter 6", () -> taste(x, true, 6, 0));
        CHECK.argument("no matter 255", () -> taste(x, true, 255, 0));
        CHECK.argument("no advice 10", () -> taste(x, true, 0, 1, 0, 10));
        CHECK.argument("no advice 128", () -> taste(x, true, 0, 128));
        CHECK.due("20 tastes", 0, () -> taste(x, true, new int[40]));
        CHECK.argument("21 tastes", () -> taste(x, true, new int[42]));
        Check.law(x, "add 9 if matter<1");
        CHECK.due("by advice", 7, () -> taste(x, false, 0, 9));
        CHECK.due("no jar", 0, () -> taste(views(), true, 0, 0));
    }

    private static Object next(JarCabinet x, int... bytes) {
        return Check.feed(x, asBytes(bytes)).next();
    }

    private static void nextTaste() {
        JarCabinet x = views("111111", "121211", "122321", "112411");
        CHECK.due("all: matter 3 has four", 3, () -> next(x));
        CHECK.due("of jars 1 and 2: the least that tells", 2, () -> next(x, 1, 2));
        CHECK.due("of one", -1, () -> next(x, 3, 1));
        CHECK.due("of none", -1, () -> next(x, 3, 9));
        CHECK.due("the tape is used up", false, () -> x.end(1));
        CHECK.due("alike: the least", 0, () -> next(views("111111", "111111")));
        CHECK.due("the most with one advice are the fewest", 1,
                () -> next(views("110000", "110000", "120000", "230000")));
        CHECK.argument("an odd byte", () -> next(x, 0, 1, 0));
        CHECK.argument("no matter", () -> next(x, 6, 1));
        CHECK.argument("no advice", () -> next(x, 1, 10));
        CHECK.due("the tape is used up", false, () -> x.end(1));
        CHECK.argument("no matter, without jars", () -> next(views(), 6, 1));
        Check.law(x, "less 9 if matter>2 and matter<4");
        CHECK.due("by advice", 1, () -> next(x));
    }

    private static void harmAndArranged() {
        JarCabinet x = Check.with(jar(0, 2, 0, "000000") + ";" + jar(3, 5, 0, "000000") + ";"
                + jar(4, 2, 0, "000000") + ";" + jar(7, 0, 0, "000000"));
        Check.cabinet(x, "light 0 9;light 1 8;light 2 8;light 3 7;light 4 5;light 5 9");
        Check.cabinet(x, "light 6 3;light 7 3;light 8 6;light 9 6;light 10 7;light 11 1");
        CHECK.due("harm", 2 * 9 + 5 * 7 + 2 * 5, () -> x.harm());
        CHECK.due("least", 5 * 1 + 2 * 3 + 2 * 3, () -> x.arranged(-1));
        int[] places = {6, 11, 7, 0};
        for (int jar = 0; jar < 4; jar++) {
            int j = jar;
            CHECK.due("arranged " + j, places[j], () -> x.arranged(j));
        }
        CHECK.index("no jar", () -> x.arranged(4));
        CHECK.index("jar -2", () -> x.arranged(-2));
        CHECK.due("nothing is moved", 0, () -> x.jar(0, 1));
        x.ask(1, 0);
        CHECK.due("by spoons now", 4 * 1 + 2 * 3 + 2 * 3, () -> x.arranged(-1));
        CHECK.due("harm by spoons now", 56, () -> x.harm());
        JarCabinet y = Check.with(jar(5, 3, 0, "000000") + ";" + jar(6, 3, 0, "000000"));
        CHECK.due("no light", 0, () -> y.arranged(-1));
        CHECK.due("the least place", 0, () -> y.arranged(0));
        CHECK.due("the next one", 1, () -> y.arranged(1));
        Check.cabinet(y, "light 0 2;light 1 2;light 2 2;light 3 2;light 4 2;light 5 1;light 6 2");
        Check.cabinet(y, "light 7 2;light 8 2;light 9 2;light 10 2;light 11 2");
        CHECK.due("one may have the dark place", 9, () -> y.arranged(-1));
        CHECK.due("jar 0 the least place that can be", 0, () -> y.arranged(0));
        CHECK.due("so jar 1 has the dark one", 5, () -> y.arranged(1));
    }

    /** The fullest stands last, and the darkest place is the first one. */
    private static void arrangedByOrder() {
        JarCabinet x = Check.with(jar(5, 1, 0, "000000") + ";" + jar(6, 2, 0, "000000") + ";"
                + jar(7, 3, 0, "000000") + ";" + jar(8, 4, 0, "000000"));
        Check.cabinet(x, "light 0 1;light 1 9;light 2 4;light 3 9;light 4 3;light 5 9");
        Check.cabinet(x, "light 6 9;light 7 9;light 8 9;light 9 9;light 10 9;light 11 2");
        CHECK.due("least", 4 * 1 + 3 * 2 + 2 * 3 + 1 * 4, () -> x.arranged(-1));
        int[] places = {2, 4, 11, 0};
        for (int jar = 0; jar < 4; jar++) {
            int j = jar;
            CHECK.due("arranged " + j, places[j], () -> x.arranged(j));
        }
    }

    private static void planAgain() {
        JarCabinet x = Check.with(jar(0, 2, 0, "990000") + ";" + jar(1, 1, 0, "900000")
                + ";need 0 0 9;need 0 1 9;need 0 1 9;need 0 1 9");
        for (int n = 0; n < 3; n++) {
            CHECK.due("the same again", 7, () -> x.plan());
        }
        x.ask(0, 0);
        CHECK.due("a spoon less", 3, () -> x.plan());
        JarCabinet y = Check.with(jar(0, 1, 0, "900000") + ";" + jar(1, 1, 0, "090000")
                + ";need 0 0 9;need 0 0 9;need 0 1 9");
        CHECK.due("a need not taken yet makes no room", 5, () -> y.plan());
        x.ask(1, 0);
        CHECK.due("another one less", 1, () -> x.plan());
        x.undo();
        CHECK.due("it is back", 3, () -> x.plan());
    }

    private static void falling() {
        JarCabinet x = Check.with(jar(0, 4, 0, "000000") + ";" + jar(2, 3, 0, "000000") + ";"
                + jar(3, 5, 0, "000000") + ";" + jar(11, 8, 0, "000000"));
        int[] due = {7, 8, 8, 5, 0, 0, 0, 0, 0, 8, 8, 8};
        for (int place = 0; place < 12; place++) {
            int p = place;
            CHECK.due("falls " + p, due[p], () -> x.falls(p));
        }
        CHECK.due("worst, the least", 1, () -> x.falls(-1));
        CHECK.index("no place 12", () -> x.falls(12));
        CHECK.index("no place -2", () -> x.falls(-2));
        CHECK.due("worst without jars", 0, () -> views().falls(-1));
        x.move(3, 9);
        CHECK.due("two next ones", 8, () -> x.falls(7));
        CHECK.due("not a third", 0, () -> x.falls(6));
    }

    private static JarCabinet seals(int quota, int... seals) {
        JarCabinet x = new JarCabinet();
        Check.cabinet(x, "quota " + quota);
        for (int k = 0; k < seals.length; k++) {
            Check.cabinet(x, jar(k, 1, seals[k], "000000"));
        }
        return x;
    }

    private static void votes() {
        JarCabinet x = seals(6, 4, 3, 2, 0);
        boolean[] wins = {false, false, false, true, false, true, false, true};
        for (int set = 0; set < 8; set++) {
            int s = set;
            CHECK.due("wins " + s, wins[s], () -> x.wins(s));
            CHECK.due("wins with the one of no seal " + s, wins[s], () -> x.wins(s | 8));
            CHECK.due("bits of none count for nothing " + s, wins[s], () -> x.wins(s | -16));
        }
        int[] power = {6, 2, 2, 0};
        for (int jar = 0; jar < 4; jar++) {
            int j = jar;
            CHECK.due("power " + j, power[j], () -> x.jar(j, 9));
        }
        CHECK.due("dummies", 8, () -> x.dummies());
        CHECK.due("smallest", 3, () -> x.smallest(false));
        CHECK.due("deal", 5, () -> x.smallest(true));
        JarCabinet y = seals(9, 2, 3, 4, 9, 9);
        CHECK.due("the fewest, of several the least", 8, () -> y.smallest(false));
        CHECK.due("the least seals, of several the least", 7, () -> y.smallest(true));
        JarCabinet z = seals(10, 4, 5);
        CHECK.due("none wins", -1, () -> z.smallest(false));
        CHECK.due("no deal", -1, () -> z.smallest(true));
        CHECK.due("all are dummies", 3, () -> z.dummies());
        CHECK.due("not even all", false, () -> z.wins(3));
        JarCabinet ten = seals(90, 9, 9, 9, 9, 9, 9, 9, 9, 9, 9);
        CHECK.due("just all", 1023, () -> ten.smallest(true));
        CHECK.due("just all", 1023, () -> ten.smallest(false));
        CHECK.due("power by the others all", 1, () -> ten.jar(9, 9));
        CHECK.due("no dummy", 0, () -> ten.dummies());
        JarCabinet first = seals(4, 4, 5);
        CHECK.due("the first alone", 1, () -> first.smallest(false));
        CHECK.due("the first alone", 1, () -> first.smallest(true));
        JarCabinet one = seals(1, 1, 0, 0, 0, 0, 0, 0, 0, 0, 0);
        CHECK.due("all sets of others", 512, () -> one.jar(0, 9));
        CHECK.due("the others are dummies", 1022, () -> one.dummies());
    }

    private static void wars() {
        JarCabinet x = views("900231", "901222");
        // none at rest by 9: both open; 0 and 0: none, or one alone
        int[] due = {8, 7, 6, 14, 10, 2 | 4};
        // 0 and 1: one alone (not none: the second one would open)
        // 2 and 2: one alone, or both; 3 and 2: the first one alone, or both; 1 and 2: one alone
        for (int matter = 0; matter < 6; matter++) {
            int m = matter;
            CHECK.due("war of " + m, due[m], () -> x.war(0, 1, m));
        }
        CHECK.due("turned round", 12, () -> x.war(1, 0, 4));
        CHECK.argument("both are one", () -> x.war(0, 0, 0));
        CHECK.index("no matter, told first", () -> x.war(0, 0, 6));
        CHECK.index("no jar", () -> x.war(2, 0, 0));
        CHECK.index("no other", () -> x.war(0, -1, 0));
        Check.law(x, "less 9");
        CHECK.due("by advice", 7, () -> x.war(0, 1, 0));
    }
}

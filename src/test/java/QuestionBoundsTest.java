/** The bounds in what jars say and can do together: promises 7, 10 and 17 to 32. */
public final class QuestionBoundsTest {
    private static final Check CHECK = new Check("QuestionBoundsTest");

    public static void main(String[] args) {
        fiveApart();
        clashOfSomeMatter();
        bestOfTwo();
        coalitions();
        agreeing();
        alike();
        covering();
        answersByYear();
        answersByLowAndSpoons();
        planBySpoons();
        planOfTen();
        planByTenMoves();
        firstUnmet();
        tastesOnTape();
        tastesOtherwise();
        nextOfTwo();
        harmOfAll();
        arrangedOfTen();
        arrangedInOrder();
        arrangedByOneDarkPlace();
        fallsOfThree();
        worstOfSeveral();
        winsByQuota();
        powers();
        smallestAndDeal();
        wars();
        CHECK.end();
    }

    private static JarCabinet views(String... views) {
        JarCabinet x = new JarCabinet();
        for (int k = 0; k < views.length; k++) {
            Check.cabinet(x, Check.jar("honey", k, 1, 0, 1, views[k]));
        }
        return x;
    }

    /** Ten jars, each of which has its own number for a view of all. */
    private static JarCabinet ten() {
        String[] views = new String[10];
        for (int k = 0; k < 10; k++) {
            views[k] = ("" + k).repeat(6);
        }
        return views(views);
    }

    private static void fiveApart() {
        CHECK.says("CLASH: two JARS whose ADVICE of a MATTER is 5 or more apart. MIXTURE of two: the half of both "
                + "ADVICES together, rounded down; 0, if they CLASH.");
        JarCabinet x = ten();
        for (int a = 0; a < 10; a++) {
            int clashes = 0;
            for (int b = 0; b < 10; b++) {
                boolean clash = Math.abs(a - b) > 4;
                clashes |= clash ? 1 << b : 0;
                int one = a;
                int other = b;
                if (a != b) {
                    int due = clash ? 0 : (a + b - (a + b) % 2) / 2;
                    CHECK.due("mixture of " + a + " and " + b, due, () -> x.mixture(one, other, 5));
                }
            }
            int due = clashes;
            int jar = a;
            CHECK.due("clashes of " + a, due, () -> x.jar(jar, 7));
        }
    }

    private static void clashOfSomeMatter() {
        CHECK.says("CLASHES of a JAR: all with which it does of some MATTER.");
        for (int matter = 0; matter < 6; matter++) {
            for (int view : new int[] {4, 5}) {
                StringBuilder other = new StringBuilder("000000");
                other.setCharAt(matter, (char) ('0' + view));
                JarCabinet x = views("000000", other.toString());
                CHECK.due("clash by " + view + " of " + matter, view == 5 ? 2 : 0, () -> x.jar(0, 7));
                CHECK.due("turned round", view == 5 ? 1 : 0, () -> x.jar(1, 7));
                CHECK.due("coalition by " + view + " of " + matter, view == 5 ? 1 : 3, () -> x.coalition());
            }
        }
    }

    private static void bestOfTwo() {
        CHECK.says("of all two JARS those whose MIXTURE is nearest to it (of several the least first, then second one; "
                + "none with fewer than two): 10 times the first and the second.");
        CHECK.due("none", -1, () -> views().best(0, 0));
        CHECK.due("one", -1, () -> views("555555").best(0, 5));
        CHECK.due("two", 1, () -> views("555555", "555555").best(0, 5));
        CHECK.due("two, far away", 1, () -> views("000000", "000000").best(0, 9));
        CHECK.due("two of 9", 1, () -> views("999999", "999999").best(5, 0));
        JarCabinet x = ten();
        // 0 and 1 make 0, as all that clash do; 7 and 9 make 8, and none makes 9
        int[] due = {1, 2, 4, 15, 26, 37, 48, 59, 79, 79};
        for (int number = 0; number < 10; number++) {
            int n = number;
            CHECK.due("the least pair for " + n, due[n], () -> x.best(3, n));
        }
        CHECK.due("6 from above ahead of 4 from below", 1, () -> views("666666", "666666", "222222").best(0, 5));
        CHECK.due("4 from below ahead of 6 from above", 1, () -> views("444444", "444444", "888888").best(0, 5));
        CHECK.due("the second one decides", 12, () -> views("000000", "888888", "888888", "888888").best(0, 8));
        CHECK.due("the last two", 89, () -> views("000000", "000000", "000000", "000000", "000000", "000000",
                "000000", "000000", "444444", "444444").best(0, 9));
    }

    private static void coalitions() {
        CHECK.says("COALITION: the most JARS of which no two CLASH of any MATTER: of several such sets the least as bits.");
        CHECK.due("none", 0, () -> views().coalition());
        CHECK.due("one", 1, () -> views("090909").coalition());
        CHECK.due("two that do not", 3, () -> views("000000", "444444").coalition());
        CHECK.due("two that do", 1, () -> views("000000", "000005").coalition());
        CHECK.due("ten: 0 to 4 or 5 to 9 or between", 31, () -> ten().coalition());
        CHECK.due("all ten", 1023, () -> views("000000", "040000", "400000", "444444", "111111", "222222", "333333",
                "123123", "321321", "404040").coalition());
        CHECK.due("all clash: the first", 1, () -> views("000000", "555555", "050505").coalition());
        CHECK.due("the last nine", 1022, () -> views("000000", "555555", "555555", "555555", "555555", "555555",
                "555555", "555555", "555555", "555555").coalition());
        CHECK.due("more go ahead of less as bits", 14, () -> views("090000", "000000", "000000", "000000").coalition());
        JarCabinet x = views("000000", "005000");
        CHECK.due("by a clash", 1, () -> x.coalition());
        Check.law(x, "less 1");
        CHECK.due("by none any more", 3, () -> x.coalition());
    }

    private static void agreeing() {
        CHECK.says("AGREE: MATTERS of which all JARS of a set give one ADVICE (of none: all).");
        JarCabinet x = views("012345", "012340", "912345");
        CHECK.due("of none", 63, () -> x.agree(0));
        CHECK.due("of one", 63, () -> x.agree(1));
        CHECK.due("all but the last", 31, () -> x.agree(3));
        CHECK.due("all but the first", 62, () -> x.agree(5));
        CHECK.due("all but both", 30, () -> x.agree(6));
        CHECK.due("of all", 30, () -> x.agree(7));
        CHECK.due("of none that is", 63, () -> x.agree(8));
        CHECK.due("of nothing", 0, () -> views("000000", "111111").agree(3));
    }

    private static void alike() {
        CHECK.says("ALIKE: all others that give the same ADVICE of all MATTERS.");
        for (int matter = 0; matter < 6; matter++) {
            StringBuilder other = new StringBuilder("555555");
            other.setCharAt(matter, '6');
            JarCabinet x = views("555555", other.toString(), "555555");
            CHECK.due("but for matter " + matter, 4, () -> x.jar(0, 8));
            CHECK.due("the other one is alone", 0, () -> x.jar(1, 8));
            CHECK.due("not itself", 1, () -> x.jar(2, 8));
        }
        CHECK.due("one alone", 0, () -> views("555555").jar(0, 8));
        JarCabinet ten = Check.withJars(10);
        CHECK.due("nine others", 1022, () -> ten.jar(0, 8));
        CHECK.due("nine others", 511, () -> ten.jar(9, 8));
        JarCabinet y = views("888888", "999999");
        Check.law(y, "add 1");
        CHECK.due("alike as both are cut", 2, () -> y.jar(0, 8));
    }

    private static void covering() {
        CHECK.says("COVER by a NUMBER: the fewest JARS so that of each MATTER the ADVICE of some of these is that at least: "
                + "of several the least as bits; none.");
        for (int number = 0; number < 10; number++) {
            int n = number;
            int due = 1 << number;
            CHECK.due("the first that has " + n, due, () -> ten().cover(n));
        }
        for (int matter = 0; matter < 6; matter++) {
            StringBuilder other = new StringBuilder("777777");
            other.setCharAt(matter, '6');
            CHECK.due("all but one matter", -1, () -> views(other.toString()).cover(7));
            CHECK.due("one less", 1, () -> views(other.toString()).cover(6));
        }
        CHECK.due("six, one for each", 63, () -> views("900000", "090000", "009000", "000900", "000090", "000009").cover(9));
        CHECK.due("five of six", -1, () -> views("900000", "090000", "009000", "000900", "000090").cover(9));
        CHECK.due("one is fewer than two", 4, () -> views("999000", "000999", "999999").cover(9));
        CHECK.due("the least of two", 2, () -> views("000000", "999999", "999999").cover(1));
        CHECK.due("0 by one jar of 0", 1, () -> views("000000", "000000").cover(0));
        CHECK.due("0 without jars", -1, () -> views().cover(0));
    }

    private static void answersByYear() {
        CHECK.says("MET: a NEED whose YEAR is 0 to 40 YEARS from now can be answered by a JAR");
        JarCabinet x = Check.with(Check.jar("honey", 0, 1, 0, 0, "999999")
                + ";need 0 0 1;need 1 0 1;need 39 0 1;need 40 0 1;need 41 0 1;need 42 0 1;need 9999 0 1");
        int[] due = {1, 1, 1, 1, 0, 0, 0};
        for (int need = 0; need < 7; need++) {
            int k = need;
            CHECK.due("answers of " + k, due[k], () -> x.need(k, 3));
        }
        CHECK.due("unmet", 4, () -> x.unmet());
        CHECK.due("plan", 1, () -> x.plan());
        x.years(1);
        int[] later = {0, 1, 1, 1, 1, 0, 0};
        for (int need = 0; need < 7; need++) {
            int k = need;
            CHECK.due("answers of " + k + " a year later", later[k], () -> x.need(k, 3));
        }
        CHECK.due("the first is gone by", 0, () -> x.unmet());
        CHECK.due("plan a year later", 2, () -> x.plan());
        CHECK.due("its year stays", 0, () -> x.need(0, 0));
        for (int year : new int[] {29, 30, 70, 71}) {
            JarCabinet y = Check.with(Check.jar("honey", 0, 1, 0, 0, "999999") + ";need " + year + " 0 1");
            y.years(30);
            boolean can = year >= 30 && year <= 70;
            CHECK.due("one need of year " + year + " in year 30", can ? 1 : 0, () -> y.need(0, 3));
            CHECK.due("plan for year " + year + " in year 30", can ? 1 : 0, () -> y.plan());
            CHECK.due("unmet for year " + year + " in year 30", can ? -1 : 0, () -> y.unmet());
        }
    }

    private static void answersByLowAndSpoons() {
        CHECK.says("that AHEAD by then has SPOONS and whose ADVICE of that MATTER is LOW at least;");
        String needs = "";
        for (int low = 1; low <= 9; low++) {
            needs += ";need 0 3 " + low;
        }
        for (int view = 0; view < 10; view++) {
            JarCabinet x = Check.with(Check.jar("honey", 0, 1, 0, 0, "000" + view + "00")
                    + ";" + Check.jar("honey", 1, 0, 0, 0, "999999") + needs);
            for (int low = 1; low <= 9; low++) {
                int k = low - 1;
                CHECK.due("view " + view + " and low " + low, view >= low ? 1 : 0, () -> x.need(k, 3));
            }
        }
        JarCabinet y = Check.with(Check.jar("honey", 0, 1, 0, 0, "555555")
                + ";need 2 0 5;need 3 0 5;need 4 0 6;need 5 0 6", "pop if year>1;add 1 if year>3;less 9 if spoons<1");
        int[] due = {1, 0, 0, 0};
        for (int need = 0; need < 4; need++) {
            int k = need;
            CHECK.due("popped in the year ahead of " + k, due[k], () -> y.need(k, 3));
        }
        Check.law(y, "add 1 if year>3");
        int[] more = {1, 1, 1, 1};
        for (int need = 0; need < 4; need++) {
            int k = need;
            CHECK.due("advice by then", more[k], () -> y.need(k, 3));
        }
    }

    private static void planBySpoons() {
        CHECK.says("each takes a SPOON, a JAR answers as many NEEDS at most as it has SPOONS now.");
        String needs = ";need 0 0 1".repeat(5);
        for (int spoons = 0; spoons <= 6; spoons++) {
            JarCabinet x = Check.with(Check.jar("honey", 0, spoons, 0, 0, "999999") + needs);
            int due = (1 << Math.min(5, spoons)) - 1;
            CHECK.due("plan by " + spoons + " spoons", due, () -> x.plan());
            CHECK.due("unmet by " + spoons + " spoons", spoons == 0 ? 0 : -1, () -> x.unmet());
        }
        JarCabinet two = Check.with(Check.jar("honey", 0, 2, 0, 0, "999999") + ";"
                + Check.jar("honey", 1, 2, 0, 0, "999999") + needs);
        CHECK.due("two and two", 15, () -> two.plan());
        two.ask(1, 0);
        CHECK.due("two and one", 7, () -> two.plan());
        two.mix(0, 1, 0);
        CHECK.due("one and none", 1, () -> two.plan());
    }

    private static void planOfTen() {
        CHECK.says("PLAN: the most NEEDS that can all be MET: of several such sets the least as bits.");
        String needs = "";
        for (int k = 0; k < 10; k++) {
            needs += (k == 0 ? "" : ";") + "need " + 4 * k + " " + k % 6 + " " + (k == 9 ? 9 : 1);
        }
        for (int spoons : new int[] {8, 9, 10, 11}) {
            JarCabinet x = Check.with(needs);
            Check.cabinet(x, Check.jar("honey", 0, spoons, 0, 0, "999999"));
            CHECK.due("ten needs, " + spoons + " spoons", (1 << Math.min(10, spoons)) - 1, () -> x.plan());
        }
        JarCabinet y = Check.with(needs);
        Check.cabinet(y, Check.jar("honey", 0, 1, 0, 0, "111911"));
        CHECK.due("one spoon: the first", 1, () -> y.plan());
        JarCabinet z = Check.with(needs);
        Check.cabinet(z, Check.jar("honey", 0, 1, 0, 0, "000900"));
        CHECK.due("need 3 ahead of need 9", 8, () -> z.plan());
        Check.cabinet(z, Check.jar("honey", 1, 1, 0, 0, "000900"));
        CHECK.due("need 3 and need 9", 520, () -> z.plan());
        // each new need goes to jar 0, and those ahead of it make room from jar to jar
        JarCabinet chain = Check.with("need 0 0 1;need 0 1 1;need 0 2 1;need 0 3 1;need 0 4 1;need 0 5 1");
        String[] views = {"111111", "100000", "110000", "011000", "001100", "000110"};
        for (int k = 0; k < 6; k++) {
            Check.cabinet(chain, Check.jar("honey", k, 1, 0, 0, views[k]));
        }
        CHECK.due("all by making room", 63, () -> chain.plan());
        chain.ask(0, 0);
        CHECK.due("without jar 0", 31, () -> chain.plan());
        chain.undo();
        CHECK.due("with jar 0 again", 63, () -> chain.plan());
        CHECK.due("no need", 0, () -> Check.withJars(10).plan());
        CHECK.due("no jar", 0, () -> Check.with("need 0 0 1").plan());
    }

    /** Need 9 wants jar 0, need 0 goes on to jar 1, .. and need 8 to jar 9: no longer way can be. */
    private static void planByTenMoves() {
        JarCabinet x = Check.with("need 0 0 9;need 1 0 9;need 2 0 9;need 3 0 9;need 4 0 9;need 5 0 9;need 6 0 9;"
                + "need 7 0 9;need 8 0 9;need 0 1 9");
        for (int k = 0; k < 10; k++) {
            Check.cabinet(x, Check.jar("honey", k, 1, 0, 0, "999999"));
        }
        Check.law(x, "less 9 if matter<1 and not (jar+1>year and jar<year+2);less 9 if matter>0 and jar>0");
        CHECK.due("answers of the first", 3, () -> x.need(0, 3));
        CHECK.due("answers of the ninth", 768, () -> x.need(8, 3));
        CHECK.due("answers of the last", 1, () -> x.need(9, 3));
        CHECK.due("all ten", 1023, () -> x.plan());
        CHECK.due("all ten again", 1023, () -> x.plan());
        JarCabinet y = Check.with(Check.jar("honey", 0, 1, 0, 0, "900000") + ";" + Check.jar("honey", 1, 1, 0, 0, "090000")
                + ";need 0 0 9;need 0 0 9;need 0 1 9");
        for (int n = 0; n < 3; n++) {
            CHECK.due("as if none had been asked ahead", 5, () -> y.plan());
        }
        x.ask(9, 0);
        CHECK.due("nine, without the last", 511, () -> x.plan());
        CHECK.due("nine again", 511, () -> x.plan());
    }

    private static void firstUnmet() {
        CHECK.says("UNMET: the first NEED (by numbers) that no JAR can answer at all; none.");
        String jar = Check.jar("honey", 0, 1, 0, 0, "500000");
        CHECK.due("no need", -1, () -> Check.with(jar).unmet());
        CHECK.due("all can be", -1, () -> Check.with(jar + ";need 0 0 5;need 40 0 5").unmet());
        CHECK.due("the first", 0, () -> Check.with(jar + ";need 0 0 6;need 0 1 1").unmet());
        CHECK.due("the last", 9, () -> Check.with(jar + ";need 0 0 5".repeat(9) + ";need 0 0 6").unmet());
        CHECK.due("without jars", 0, () -> Check.with("need 0 0 1").unmet());
    }

    private static int tastes(JarCabinet x, boolean otherwise, int... bytes) {
        byte[] b = new byte[bytes.length];
        for (int k = 0; k < b.length; k++) {
            b[k] = (byte) bytes[k];
        }
        return Check.feed(x, b).tastes(otherwise);
    }

    private static int[] repeated(int times, int matter, int advice) {
        int[] bytes = new int[2 * times];
        for (int k = 0; k < times; k++) {
            bytes[2 * k] = matter;
            bytes[2 * k + 1] = advice;
        }
        return bytes;
    }

    private static void tastesOnTape() {
        CHECK.says("TASTES (of each two bytes: MATTER, ADVICE; at most 20): JARS, as bits. "
                + "IllegalArgumentException: the TAPE is not that (none may be told).");
        JarCabinet x = views("012345", "999999");
        CHECK.due("none told", 3, () -> tastes(x, false));
        CHECK.due("none told, otherwise", 3, () -> tastes(x, true));
        for (int matter : new int[] {0, 5, 6, 7, 127, 128, 255}) {
            CHECK.due("matter " + matter, matter > 5 ? Check.ARGUMENT : 2, () -> tastes(x, false, matter, 9));
        }
        for (int advice : new int[] {0, 9, 10, 11, 127, 128, 255}) {
            int due = advice == 0 ? 1 : advice == 9 ? 2 : -1;
            CHECK.due("advice " + advice, due < 0 ? Check.ARGUMENT : due, () -> tastes(x, false, 0, advice));
        }
        for (int times : new int[] {1, 2, 10, 19, 20, 21, 22, 200}) {
            CHECK.due(times + " tastes", times > 20 ? Check.ARGUMENT : 1, () -> tastes(x, false, repeated(times, 5, 5)));
            CHECK.due(times + " tastes for next", times > 20 ? Check.ARGUMENT : -1, () -> next(x, repeated(times, 5, 5)));
        }
        for (int bytes : new int[] {1, 3, 19, 21, 39, 41}) {
            CHECK.argument(bytes + " bytes", () -> tastes(x, false, new int[bytes]));
            CHECK.argument(bytes + " bytes for next", () -> next(x, new int[bytes]));
        }
        CHECK.argument("the last of 20 is none", () -> tastes(x, false,
                0, 0, 0, 0, 0, 0, 0, 0, 0, 0, 0, 0, 0, 0, 0, 0, 0, 0, 0, 0, 0, 0, 0, 0, 0, 0, 0, 0, 0, 0, 0, 0, 0, 0, 0, 0, 0, 0, 0, 10));
        CHECK.argument("a matter without an advice", () -> tastes(x, true, 0, 0, 0));
        CHECK.argument("wrong without jars, too", () -> tastes(views(), true, 6, 0));
        CHECK.due("right without jars", 0, () -> tastes(views(), true, 5, 9));
    }

    private static void tastesOtherwise() {
        CHECK.says("JARS that give all of these (or, otherwise, all but one at most), as bits.");
        JarCabinet x = views("000000", "000001", "000011", "000111");
        int[] all = {0, 0, 1, 0, 2, 0, 3, 0, 4, 0, 5, 0};
        CHECK.due("all", 1, () -> tastes(x, false, all));
        CHECK.due("all but one at most", 3, () -> tastes(x, true, all));
        CHECK.due("one told", 15, () -> tastes(x, true, 5, 9));
        CHECK.due("one told twice", 0, () -> tastes(x, true, 5, 9, 5, 9));
        CHECK.due("one told both ways", 15, () -> tastes(x, true, 5, 0, 5, 1));
        CHECK.due("one told both ways, all of it", 0, () -> tastes(x, false, 5, 0, 5, 1));
        CHECK.due("three told", 7, () -> tastes(x, true, 3, 0, 4, 0, 5, 1));
    }

    private static int next(JarCabinet x, int... bytes) {
        byte[] b = new byte[bytes.length];
        for (int k = 0; k < b.length; k++) {
            b[k] = (byte) bytes[k];
        }
        return Check.feed(x, b).next();
    }

    private static void nextOfTwo() {
        CHECK.says("are the fewest (of several the least; none with fewer than two JARS).");
        CHECK.due("no jar", -1, () -> next(views()));
        CHECK.due("one jar", -1, () -> next(views("000000")));
        CHECK.due("two alike", 0, () -> next(views("000000", "000000")));
        for (int matter = 0; matter < 6; matter++) {
            StringBuilder other = new StringBuilder("000000");
            other.setCharAt(matter, '1');
            int due = matter;
            CHECK.due("two apart of " + matter, due, () -> next(views("000000", other.toString())));
            CHECK.due("one by the taste", -1, () -> next(views("000000", other.toString()), due, 1));
            CHECK.due("none by the taste", -1, () -> next(views("000000", other.toString()), due, 2));
            CHECK.due("two of three by the taste", due == 0 ? 1 : 0,
                    () -> next(views("000000", other.toString(), due == 0 ? "010000" : "100000"), due, 0));
        }
        CHECK.due("three: one each ahead of two and one", 4,
                () -> next(views("000000", "111111", "111121")));
        CHECK.due("four: one each ahead of two, one and one", 1,
                () -> next(views("000000", "010000", "120000", "230000")));
        CHECK.due("ten alike: the least", 0, () -> next(Check.withJars(10)));
        CHECK.due("three of 9 are more than two of 0", 1, () -> next(views("900000", "900000", "910000")));
        CHECK.due("three of 0 are more than two of 9", 1, () -> next(views("090000", "090000", "080000")));
        CHECK.due("ten: the last matter tells all", 5, () -> next(views("000000", "000001", "000002", "000003", "000004",
                "000005", "000006", "000007", "000008", "000009")));
    }

    private static void harmOfAll() {
        CHECK.says("HARM: LIGHT of the PLACE times SPOONS of all JARS together.");
        JarCabinet x = new JarCabinet();
        Check.cabinet(x, "light 0 9;light 1 9;light 2 9;light 3 9;light 4 9;light 5 9;light 6 9;light 7 9;light 8 9;light 9 9");
        for (int k = 0; k < 10; k++) {
            Check.cabinet(x, Check.jar("honey", k, 20, 0, 0, "000000"));
        }
        CHECK.due("the most that can be", 1800, () -> x.harm());
        CHECK.due("two places are dark", 1440, () -> x.arranged(-1));
        x.move(0, 11);
        CHECK.due("one stands in the dark", 1620, () -> x.harm());
        CHECK.due("still", 1440, () -> x.arranged(-1));
        JarCabinet y = Check.with(Check.jar("honey", 4, 0, 0, 0, "000000") + ";light 4 9");
        CHECK.due("without spoons", 0, () -> y.harm());
        CHECK.due("the least place", 0, () -> y.arranged(0));
        JarCabinet z = Check.with(Check.jar("honey", 4, 20, 0, 0, "000000"));
        CHECK.due("without light", 0, () -> z.harm());
    }

    private static void arrangedOfTen() {
        CHECK.says("the PLACE of a JAR in the first such way (JAR 0 the least PLACE that can be, then 1, ..).");
        JarCabinet same = Check.withJars(10);
        for (int jar = 0; jar < 10; jar++) {
            int j = jar;
            CHECK.due("no light: jar " + j, j, () -> same.arranged(j));
        }
        Check.cabinet(same, "light 0 1;light 1 1");
        for (int jar = 0; jar < 10; jar++) {
            int j = jar;
            CHECK.due("two places of light are left: jar " + j, j + 2, () -> same.arranged(j));
        }
        Check.cabinet(same, "light 11 1");
        // one of the ten must have light, of 0, 1 and 11 alike: jar 0 takes place 0
        for (int jar = 0; jar < 10; jar++) {
            int j = jar;
            CHECK.due("one must have light: jar " + j, j == 0 ? 0 : j + 1, () -> same.arranged(j));
        }
        CHECK.due("its harm", 9, () -> same.arranged(-1));
        same.ask(9, 0);
        CHECK.due("the one with fewest spoons has it: jar 0", 2, () -> same.arranged(0));
        CHECK.due("the last one", 0, () -> same.arranged(9));
        CHECK.due("its harm", 8, () -> same.arranged(-1));
    }

    /** Ten jars of 1 to 10 spoons in one order or another, and ten lights: the fullest in the dark. */
    private static void arrangedInOrder() {
        int[][] orders = {{1, 2, 3, 4, 5, 6, 7, 8, 9, 10}, {10, 9, 8, 7, 6, 5, 4, 3, 2, 1}, {5, 1, 9, 3, 7, 2, 10, 4, 8, 6}};
        for (int[] order : orders) {
            JarCabinet x = Check.with("light 0 9;light 1 8;light 2 7;light 3 6;light 4 5;light 5 4;light 6 3;light 7 2;"
                    + "light 8 1;light 10 9;light 11 9");
            for (int k = 0; k < 10; k++) {
                Check.cabinet(x, Check.jar("water", k, order[k], 0, 0, "000000"));
            }
            int least = 0;
            for (int spoons = 1; spoons <= 10; spoons++) {
                least += spoons * (10 - spoons);
            }
            int due = least;
            CHECK.due("least harm", due, () -> x.arranged(-1));
            for (int k = 0; k < 10; k++) {
                int jar = k;
                CHECK.due("place of " + order[k] + " spoons", order[k] - 1, () -> x.arranged(jar));
            }
        }
    }

    /** One place is dark, and is for the fullest jar, whichever both are. */
    private static void arrangedByOneDarkPlace() {
        CHECK.says("ARRANGED: the least HARM that there could be by PLACES changed at will: how much;");
        for (int dark = 0; dark < 12; dark++) {
            JarCabinet x = new JarCabinet();
            StringBuilder lights = new StringBuilder("peel 0");
            for (int place = 0; place < 12; place++) {
                lights.append(place == dark ? "" : ";light " + place + " 9");
            }
            Check.cabinet(x, lights.toString());
            int full = dark % 4;
            for (int k = 0; k < 4; k++) {
                Check.cabinet(x, Check.jar("honey", k, k == full ? 3 : 2, 0, 0, "000000"));
            }
            CHECK.due("least harm with the dark on " + dark, 54, () -> x.arranged(-1));
            int place = 0;
            for (int k = 0; k < 4; k++) {
                place += place == dark ? 1 : 0;
                int jar = k;
                int due = k == full ? dark : place;
                place += k == full ? 0 : 1;
                CHECK.due("place of " + k + " with the dark on " + dark, due, () -> x.arranged(jar));
            }
        }
    }

    private static void fallsOfThree() {
        CHECK.says("FALLS from a PLACE: SPOONS of JARS on it and on the two next ones (as far as there are) together.");
        for (int place = 0; place < 12; place++) {
            JarCabinet x = Check.with(Check.jar("honey", place, 7, 0, 0, "000000"));
            for (int from = 0; from < 12; from++) {
                int f = from;
                int due = place >= from && place <= from + 2 ? 7 : 0;
                CHECK.due("falls from " + from + " by a jar on " + place, due, () -> x.falls(f));
            }
            int due = Math.max(0, place - 2);
            CHECK.due("worst by a jar on " + place, due, () -> x.falls(-1));
        }
        JarCabinet full = new JarCabinet();
        for (int k = 0; k < 10; k++) {
            Check.cabinet(full, Check.jar("honey", k + 2, 20, 0, 0, "000000"));
        }
        int[] due = {20, 40, 60, 60, 60, 60, 60, 60, 60, 60, 40, 20};
        for (int from = 0; from < 12; from++) {
            int f = from;
            CHECK.due("falls from " + f, due[f], () -> full.falls(f));
        }
    }

    private static void worstOfSeveral() {
        CHECK.says("WORST: the PLACE from which most FALLS (of several the least).");
        CHECK.due("without jars", 0, () -> views().falls(-1));
        CHECK.due("without spoons", 0, () -> Check.with(Check.jar("honey", 9, 0, 0, 0, "000000")).falls(-1));
        JarCabinet x = Check.with(Check.jar("honey", 3, 5, 0, 0, "000000") + ";"
                + Check.jar("honey", 11, 5, 0, 0, "000000"));
        CHECK.due("two alike: the least", 1, () -> x.falls(-1));
        x.ask(0, 0);
        CHECK.due("the one behind is more", 9, () -> x.falls(-1));
    }

    private static JarCabinet seals(int quota, int... seals) {
        JarCabinet x = Check.with("quota " + quota);
        for (int k = 0; k < seals.length; k++) {
            Check.cabinet(x, Check.jar("honey", k, 1, 0, seals[k], "000000"));
        }
        return x;
    }

    private static void winsByQuota() {
        CHECK.says("WINS: SEALS of a set together are QUOTA at least.");
        for (int quota : new int[] {8, 9, 10}) {
            JarCabinet x = seals(quota, 4, 5, 1);
            CHECK.due("4 and 5 by " + quota, quota < 10, () -> x.wins(3));
            CHECK.due("all by " + quota, true, () -> x.wins(7));
            CHECK.due("5 and 1 by " + quota, false, () -> x.wins(6));
        }
        CHECK.due("none by 1", false, () -> seals(1, 0, 1).wins(0));
        CHECK.due("0 by 1", false, () -> seals(1, 0, 1).wins(1));
        CHECK.due("1 by 1", true, () -> seals(1, 0, 1).wins(2));
        CHECK.due("90 by 90", true, () -> seals(90, 9, 9, 9, 9, 9, 9, 9, 9, 9, 9).wins(1023));
        CHECK.due("89 by 90", false, () -> seals(90, 9, 9, 9, 9, 9, 9, 9, 9, 9, 8).wins(1023));
    }

    private static void powers() {
        CHECK.says("POWER of a JAR: how many sets of others do not WIN, but with it.");
        CHECK.says("DUMMIES: JARS with no POWER.");
        int[][] seals = {{3}, {2}, {1, 1, 1}, {3, 0}, {9, 9, 9, 9, 9, 9, 9, 9, 9, 9}, {2, 2, 1}};
        int[][] power = {{1}, {0}, {1, 1, 1}, {2, 0}, {1, 1, 1, 1, 1, 1, 1, 1, 1, 1}, {2, 2, 2}};
        int[] dummies = {0, 1, 0, 2, 0, 0};
        for (int k = 0; k < seals.length; k++) {
            JarCabinet x = seals(3, seals[k]);
            int[] due = power[k];
            int none = dummies[k];
            CHECK.due("dummies", none, () -> x.dummies());
            for (int jar = 0; jar < due.length; jar++) {
                int j = jar;
                CHECK.due("power of " + seals[k][jar], due[j], () -> x.jar(j, 9));
            }
        }
        JarCabinet most = seals(1, 9, 0, 0, 0, 0, 0, 0, 0, 0, 0);
        CHECK.due("all 512 sets of others", 512, () -> most.jar(0, 9));
        CHECK.due("the others", 1022, () -> most.dummies());
        JarCabinet all = seals(90, 9, 9, 9, 9, 9, 9, 9, 9, 9, 9);
        CHECK.due("all the others alone", 1, () -> all.jar(0, 9));
        JarCabinet never = seals(90, 9, 9, 9, 9, 9, 9, 9, 9, 9, 8);
        CHECK.due("no set wins", 1023, () -> never.dummies());
        JarCabinet half = seals(5, 1, 1, 1, 1, 1, 1, 1, 1, 1, 1);
        CHECK.due("four of nine others", 126, () -> half.jar(5, 9));
        CHECK.due("without jars", 0, () -> views().dummies());
    }

    private static void smallestAndDeal() {
        CHECK.says("SMALLEST: the fewest JARS that WIN: of several the least as bits; none.");
        CHECK.says("DEAL: of all sets that WIN the one that has the least SEALS together, of several the least as bits; none.");
        int[][] rows = {{1, 1, 1}, {3, 1, 1}, {4, 2, 2}, {5, 4, 4}, {6, 3, 3}, {7, 3, 3}, {8, 5, 5}, {9, 6, 6},
            {10, 7, 7}, {12, 7, 7}, {13, -1, -1}, {90, -1, -1}};
        for (int[] row : rows) {
            JarCabinet x = seals(row[0], 3, 4, 5);
            CHECK.due("smallest by " + row[0], row[1], () -> x.smallest(false));
            CHECK.due("deal by " + row[0], row[2], () -> x.smallest(true));
        }
        CHECK.due("a dummy is not taken", 2, () -> seals(1, 0, 1).smallest(false));
        CHECK.due("a dummy does not make it dearer, but more as bits", 2, () -> seals(1, 0, 1).smallest(true));
        CHECK.due("of as many seals the least as bits", 3, () -> seals(2, 1, 1, 2).smallest(true));
        CHECK.due("fewer go ahead of less as bits", 4, () -> seals(2, 1, 1, 2).smallest(false));
        CHECK.due("none by 90", -1, () -> seals(90, 9, 9, 9, 9, 9, 9, 9, 9, 9, 8).smallest(false));
        CHECK.due("no deal by 90", -1, () -> seals(90, 9, 9, 9, 9, 9, 9, 9, 9, 9, 8).smallest(true));
        CHECK.due("all by 90", 1023, () -> seals(90, 9, 9, 9, 9, 9, 9, 9, 9, 9, 9).smallest(false));
        CHECK.due("all by 90", 1023, () -> seals(90, 9, 9, 9, 9, 9, 9, 9, 9, 9, 9).smallest(true));
    }

    /** Of the two that open or not, what the one has by its advice. */
    private static int has(int advice, boolean opens, boolean otherOpens) {
        if (opens && otherOpens) {
            return advice - 5;
        }
        return opens ? advice : otherOpens ? -3 : 0;
    }

    private static void wars() {
        CHECK.says("RESTS: pairs (0 none opens, 1 the first one, 2 the second one, 3 both) from which neither would be "
                + "better off by the other choice alone, as bits.");
        JarCabinet x = ten();
        for (int a = 0; a < 10; a++) {
            for (int b = 0; b < 10; b++) {
                int rests = 0;
                rests |= has(a, true, false) <= 0 && has(b, true, false) <= 0 ? 1 : 0;
                rests |= 0 <= has(a, true, false) && has(b, true, true) <= has(b, false, true) ? 2 : 0;
                rests |= 0 <= has(b, true, false) && has(a, true, true) <= has(a, false, true) ? 4 : 0;
                rests |= has(a, false, true) <= has(a, true, true) && has(b, false, true) <= has(b, true, true) ? 8 : 0;
                int due = rests;
                int one = a;
                int other = b;
                if (a != b) {
                    CHECK.due("war of " + a + " and " + b, due, () -> x.war(one, other, 0));
                }
            }
        }
        CHECK.due("0 and 0", 7, () -> views("000000", "000000").war(0, 1, 0));
        CHECK.due("1 and 1", 6, () -> views("111111", "111111").war(0, 1, 0));
        CHECK.due("2 and 2: -3 either way", 14, () -> views("222222", "222222").war(0, 1, 0));
        CHECK.due("3 and 3", 8, () -> views("333333", "333333").war(0, 1, 0));
        CHECK.due("0 and 2", 6, () -> views("000000", "222222").war(0, 1, 0));
        CHECK.due("0 and 3", 4, () -> views("000000", "333333").war(0, 1, 0));
        CHECK.due("3 and 0", 2, () -> views("333333", "000000").war(0, 1, 0));
        CHECK.due("2 and 3", 12, () -> views("222222", "333333").war(0, 1, 0));
    }
}

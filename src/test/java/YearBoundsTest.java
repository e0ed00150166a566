/** The bounds of years that go on, of draws, and of what is ahead: promises 16, 33 to 36, 42, 43. */
public final class YearBoundsTest {
    private static final Check CHECK = new Check("YearBoundsTest");

    public static void main(String[] args) {
        soursToNinetyNine();
        poppingNeedsSpoons();
        poppingSoursBothSides();
        poppingAtTheEnds();
        tenPop();
        byAllAsItIsByThen();
        peelIsBelow();
        waspsAreBelow();
        waspsNeedOpenAndSpoons();
        drawsOfJars();
        seedGoesRound();
        electionsOfTheCall();
        fiftyYears();
        aheadByForty();
        spoilsByForty();
        ripeByForty();
        goesByForty();
        trialsOfThirty();
        spanOfSixSeeds();
        CHECK.end();
    }

    private static JarCabinet one(int spoons, int sour, String law) {
        return Check.with(Check.jar("honey", 0, spoons, sour, 0, "555555"), law);
    }

    private static void soursToNinetyNine() {
        CHECK.says("else it is so much more SOUR as it SOURS by (99 at most).");
        int[][] rows = {{0, 0, 0}, {0, 1, 1}, {0, 99, 99}, {97, 1, 98}, {98, 1, 99}, {99, 1, 99}, {99, 0, 99},
            {50, 49, 99}, {50, 50, 99}, {1, 99, 99}, {99, 99, 99}};
        for (int[] row : rows) {
            JarCabinet x = one(1, row[0], "sour " + row[1]);
            CHECK.due("ahead", row[2], () -> x.ahead(0, 1, 0));
            x.years(1);
            CHECK.due(row[0] + " sours by " + row[1], row[2], () -> x.jar(0, 3));
        }
        JarCabinet y = one(1, 0, "sour 99;".repeat(11) + "sour 99");
        y.years(50);
        CHECK.due("twelve times 99", 99, () -> y.jar(0, 3));
        JarCabinet z = one(1, 0, "sour 33;sour 33;sour 32");
        z.years(1);
        CHECK.due("the sum of all lines", 98, () -> z.jar(0, 3));
    }

    private static void poppingNeedsSpoons() {
        CHECK.says("if it has SPOONS and POPS: it has none any more, there is an ELECTION,");
        for (int spoons : new int[] {0, 1, 2, 20}) {
            JarCabinet x = one(spoons, 7, "pop;sour 3");
            CHECK.due("elections of " + spoons, spoons > 0 ? 1 : 0, () -> x.years(1));
            CHECK.due("spoons", 0, () -> x.jar(0, 2));
            CHECK.due("it sours, if it does not pop", spoons > 0 ? 7 : 10, () -> x.jar(0, 3));
            CHECK.due("a year later none pops", 0, () -> x.years(1));
            CHECK.due("and it sours", spoons > 0 ? 10 : 13, () -> x.jar(0, 3));
            CHECK.due("elections in all", spoons > 0 ? 1 : 0, () -> x.count(10));
        }
        JarCabinet y = one(1, 0, "pop if sour>2;sour 1");
        CHECK.due("2 is not above 2", 0, () -> y.years(3));
        CHECK.due("3 is", 1, () -> y.years(1));
        CHECK.due("sour stays", 3, () -> y.jar(0, 3));
    }

    /** The jar that pops is on a place; another one so far from it. */
    private static void poppingSoursBothSides() {
        CHECK.says("and each JAR on the PLACE next to it on either side is 10 more SOUR (99 at most);");
        for (int place = 0; place < 12; place++) {
            for (int other = 0; other < 12; other++) {
                if (other != place) {
                    JarCabinet x = Check.with(Check.jar("honey", place, 1, 0, 0, "000000") + ";"
                            + Check.jar("water", other, 1, 5, 0, "000000"), "pop if honey");
                    x.years(1);
                    int due = Math.abs(place - other) == 1 ? 15 : 5;
                    CHECK.due("sour on " + other + " by a pop on " + place, due, () -> x.jar(1, 3));
                }
            }
        }
        for (int sour : new int[] {0, 88, 89, 90, 98, 99}) {
            JarCabinet x = Check.with(Check.jar("honey", 5, 1, 0, 0, "000000") + ";"
                    + Check.jar("water", 6, 0, sour, 0, "000000") + ";"
                    + Check.jar("water", 4, 3, sour, 0, "000000"), "pop if honey");
            x.years(1);
            CHECK.due("10 more than " + sour, Math.min(99, sour + 10), () -> x.jar(1, 3));
            CHECK.due("on the other side", Math.min(99, sour + 10), () -> x.jar(2, 3));
            CHECK.due("not itself", 0, () -> x.jar(0, 3));
        }
    }

    private static void poppingAtTheEnds() {
        JarCabinet x = Check.with(Check.jar("honey", 0, 1, 0, 0, "000000") + ";"
                + Check.jar("honey", 11, 1, 0, 0, "000000") + ";" + Check.jar("water", 1, 1, 0, 0, "000000") + ";"
                + Check.jar("water", 10, 1, 0, 0, "000000"), "pop if honey");
        CHECK.due("both ends pop", 2, () -> x.years(1));
        int[] sour = {0, 0, 10, 10};
        for (int jar = 0; jar < 4; jar++) {
            int j = jar;
            CHECK.due("sour of " + j, sour[j], () -> x.jar(j, 3));
        }
    }

    private static void tenPop() {
        JarCabinet x = Check.withJars(10);
        Check.law(x, "pop");
        CHECK.due("ten pop in a year", 10, () -> x.trial(1, true));
        CHECK.due("ten pop in a year", 10, () -> x.years(1));
        CHECK.due("no spoon is left", 0, () -> x.count(8));
        for (int jar = 0; jar < 10; jar++) {
            int j = jar;
            CHECK.due("sour by its neighbours", j == 0 || j == 9 ? 10 : 20, () -> x.jar(j, 3));
        }
        CHECK.due("none the year behind", 0, () -> x.years(1));
    }

    private static void byAllAsItIsByThen() {
        CHECK.says("each JAR, by numbers, by all as it is by then:");
        String law = "pop if sour>9;sour 1 if jar>1";
        // jar 0 pops and brings jar 1 to 10: that one pops, too, in the same year
        JarCabinet x = Check.with(Check.jar("honey", 4, 1, 10, 0, "000000") + ";"
                + Check.jar("honey", 5, 1, 0, 0, "000000") + ";" + Check.jar("honey", 6, 0, 0, 0, "000000"), law);
        CHECK.due("two pop", 2, () -> x.years(1));
        CHECK.due("jar 0 by the pop of 1", 20, () -> x.jar(0, 3));
        CHECK.due("jar 1 by the pop of 0", 10, () -> x.jar(1, 3));
        CHECK.due("jar 2 by the pop of 1, then by 1", 11, () -> x.jar(2, 3));
        // the other way round jar 0 was there already, and pops a year later
        JarCabinet y = Check.with(Check.jar("honey", 5, 1, 0, 0, "000000") + ";"
                + Check.jar("honey", 4, 1, 10, 0, "000000"), law);
        CHECK.due("one pops", 1, () -> y.years(1));
        CHECK.due("the other one a year later", 1, () -> y.years(1));
        CHECK.due("by the pop that came later", 20, () -> y.jar(1, 3));
        JarCabinet z = one(1, 0, "sour 1 if year>0;sour 10 if year<1;pop if year>1");
        z.years(1);
        CHECK.due("by the year that goes on", 10, () -> z.jar(0, 3));
        z.years(1);
        CHECK.due("by the next one", 11, () -> z.jar(0, 3));
        CHECK.due("by year 2", 1, () -> z.years(1));
    }

    private static int drawn(int seed) {
        return (1103515245 * seed + 12345) >>> 16 & 32767;
    }

    private static int seedBehind(int seed, int draws) {
        for (int n = 0; n < draws; n++) {
            seed = 1103515245 * seed + 12345;
        }
        return seed;
    }

    /** A seed whose first draw is so much modulo 100. */
    private static int seedOf(int rest) {
        int seed = 0;
        while (drawn(seed) % 100 != rest) {
            seed++;
        }
        return seed;
    }

    private static void peelIsBelow() {
        CHECK.says("(b) DRAW modulo 100 below PEEL, and there are JARS: the one of DRAW modulo JARS has no LABEL.");
        int[][] rows = {{0, 0}, {0, 1}, {1, 1}, {1, 2}, {49, 49}, {49, 50}, {98, 99}, {99, 99}, {99, 100}};
        for (int[] row : rows) {
            JarCabinet x = Check.with(Check.jar("honey", 0, 5, 0, 0, "000000") + ";peel " + row[1]);
            int seed = seedOf(row[0]);
            x.seed(seed);
            x.years(1);
            boolean peels = row[0] < row[1];
            CHECK.due("label by " + row[0] + " and peel " + row[1], peels ? -1 : 0, () -> x.jar(0, 5));
            CHECK.due("draws", seedBehind(seed, peels ? 3 : 2), () -> x.seed(0));
        }
        JarCabinet y = Check.with(Check.jar("honey", 0, 5, 0, 0, "000000") + ";peel 100");
        y.years(1);
        y.years(1);
        CHECK.due("one without a label may lose none", -1, () -> y.jar(0, 5));
        CHECK.due("three draws a year", seedBehind(1, 6), () -> y.seed(0));
    }

    private static void waspsAreBelow() {
        CHECK.says("(c) DRAW modulo 100 below WASPS, and there are JARS: the one of DRAW modulo JARS has a SPOON "
                + "less, if it is OPEN and has some.");
        int[][] rows = {{0, 0}, {0, 1}, {1, 1}, {1, 2}, {49, 49}, {49, 50}, {98, 99}, {99, 99}, {99, 100}};
        for (int[] row : rows) {
            JarCabinet x = Check.with(Check.jar("honey", 0, 5, 0, 0, "000000") + ";wasps " + row[1]);
            x.ask(0, 0);
            int seed = 0;
            while (drawn(seedBehind(seed, 1)) % 100 != row[0]) {
                seed++;
            }
            int s = seed;
            x.seed(s);
            x.years(1);
            boolean come = row[0] < row[1];
            CHECK.due("spoons by " + row[0] + " and wasps " + row[1], come ? 3 : 4, () -> x.jar(0, 2));
            CHECK.due("draws", seedBehind(s, come ? 3 : 2), () -> x.seed(0));
        }
        JarCabinet y = Check.with(Check.jar("honey", 0, 5, 0, 0, "000000") + ";wasps 100;peel 100");
        y.years(1);
        CHECK.due("four draws with both", seedBehind(1, 4), () -> y.seed(0));
    }

    private static void waspsNeedOpenAndSpoons() {
        for (int spoons : new int[] {1, 2, 3}) {
            JarCabinet x = Check.with(Check.jar("honey", 0, spoons, 0, 0, "000000") + ";wasps 100");
            x.years(1);
            CHECK.due("not open", spoons, () -> x.jar(0, 2));
            x.ask(0, 0);
            x.years(1);
            CHECK.due("open: of " + (spoons - 1), Math.max(0, spoons - 2), () -> x.jar(0, 2));
            x.years(1);
            CHECK.due("open: a year later", Math.max(0, spoons - 3), () -> x.jar(0, 2));
            x.close(0);
            x.years(1);
            CHECK.due("not open any more", Math.max(0, spoons - 3), () -> x.jar(0, 2));
        }
    }

    private static void drawsOfJars() {
        CHECK.says("(The first DRAW of (b), of (c) is made always.)");
        JarCabinet none = Check.with("peel 100;wasps 100");
        none.years(1);
        CHECK.due("without jars two", seedBehind(1, 2), () -> none.seed(0));
        JarCabinet never = Check.withJars(1);
        never.years(1);
        CHECK.due("peel 0 and wasps 0: two", seedBehind(1, 2), () -> never.seed(0));
        for (int jars : new int[] {1, 2, 3, 7, 10}) {
            JarCabinet x = Check.withJars(jars);
            Check.cabinet(x, "peel 100;wasps 100");
            for (int jar = 0; jar < jars; jar++) {
                x.ask(jar, 0);
            }
            x.seed(12);
            x.years(1);
            int peeled = drawn(seedBehind(12, 1)) % jars;
            int stung = drawn(seedBehind(12, 3)) % jars;
            CHECK.due("the second draw modulo " + jars, 1 << peeled, () -> x.wrong(true));
            CHECK.due("the fourth draw modulo " + jars, 7, () -> x.jar(stung, 2));
            CHECK.due("a spoon less alone", 8 * jars - 1, () -> x.count(8));
        }
    }

    private static void seedGoesRound() {
        CHECK.says("SEED is 1103515245 times SEED and 12345, as an int that goes round; bits 16 to 30 (SEED 1 at first).");
        JarCabinet x = Check.withJars(10);
        Check.cabinet(x, "peel 100");
        CHECK.due("1 at first", 1, () -> x.seed(1));
        for (int seed : new int[] {0, 1, -1, 2, Integer.MAX_VALUE, Integer.MIN_VALUE, 1 << 30, -2000000000}) {
            x.seed(seed);
            x.years(1);
            long first = (1103515245L * seed + 12345L) & 0xffffffffL;
            long second = (1103515245L * first + 12345L) & 0xffffffffL;
            long third = (1103515245L * second + 12345L) & 0xffffffffL;
            CHECK.due("seed behind " + seed, (int) third, () -> x.seed(0));
            CHECK.due("jar drawn from " + seed, true, () -> x.jar((int) ((second >> 16 & 32767) % 10), 5) == -1);
            x.undo();
            CHECK.due("none was drawn ahead", 0, () -> x.wrong(true));
        }
        // the highest bit is no part of a draw: of these two seeds one has it behind a draw, both draw alike
        JarCabinet y = Check.withJars(10);
        Check.cabinet(y, "peel 100");
        int low = 5;
        int high = low + Integer.MIN_VALUE;
        y.seed(low);
        y.years(1);
        int said = y.wrong(true);
        y.undo();
        y.seed(high);
        y.years(1);
        CHECK.due("bit 31 does not count", said, () -> y.wrong(true));
    }

    private static void electionsOfTheCall() {
        CHECK.says("10 ELECTIONS in all,");
        JarCabinet x = Check.with(Check.jar("honey", 0, 1, 0, 0, "000000") + ";"
                + Check.jar("honey", 2, 1, 0, 0, "000000") + ";" + Check.jar("honey", 4, 1, 0, 0, "000000"),
                "pop if year>0 and jar<1;pop if year>2");
        CHECK.due("in the first year", 0, () -> x.years(1));
        CHECK.due("in the second", 1, () -> x.years(1));
        CHECK.due("in two more", 2, () -> x.years(2));
        CHECK.due("in 50 more", 0, () -> x.years(50));
        CHECK.due("in all", 3, () -> x.count(10));
    }

    private static void fiftyYears() {
        CHECK.says("So many YEARS more (1 to 50)");
        JarCabinet x = Check.with(Check.jar("vinegar", 0, 1, 0, 0, "000000"));
        x.years(1);
        CHECK.due("year", 1, () -> x.count(4));
        x.years(50);
        CHECK.due("year", 51, () -> x.count(4));
        CHECK.due("sour", 51, () -> x.jar(0, 3));
        x.years(48);
        CHECK.due("sour", 99, () -> x.jar(0, 3));
        x.years(1);
        CHECK.due("99 at most", 99, () -> x.jar(0, 3));
        CHECK.due("year", 100, () -> x.count(4));
        CHECK.due("two draws a year", seedBehind(1, 200), () -> x.seed(0));
    }

    private static void aheadByForty() {
        CHECK.says("AHEAD by N YEARS (0 to 40): as THE YEAR GOES ON so often (and YEAR with it; no draws).");
        JarCabinet x = Check.with(Check.jar("honey", 0, 5, 0, 0, "000000") + ";peel 100;wasps 100",
                "sour 1;pop if sour>38;add 1 if year>38;add 1 if year>39;add 1 if year>40;add 3 if spoons<1");
        x.ask(0, 0);
        int[][] due = {{0, 0, 4, 0}, {1, 1, 4, 0}, {38, 38, 4, 0}, {39, 39, 4, 1}, {40, 39, 0, 5}};
        for (int[] row : due) {
            CHECK.due("sour by " + row[0], row[1], () -> x.ahead(0, row[0], 0));
            CHECK.due("spoons by " + row[0], row[2], () -> x.ahead(0, row[0], 1));
            CHECK.due("advice by " + row[0], row[3], () -> x.ahead(0, row[0], 2));
            CHECK.due("advice of the last matter by " + row[0], row[3], () -> x.ahead(0, row[0], 7));
        }
        CHECK.argument("41", () -> x.ahead(0, 41, 0));
        CHECK.due("no draws", 1, () -> x.seed(1));
        CHECK.due("no election", 0, () -> x.count(10));
    }

    private static void spoilsByForty() {
        CHECK.says("SPOILS: the first N (0 to 40) AHEAD by which ADVICE of a MATTER is below a NUMBER; none.");
        JarCabinet x = one(1, 0, "less 1 if year>0;less 1 if year>38;less 1 if year>39;less 1 if year>40");
        int[] due = {-1, -1, -1, 40, 39, 1, 0, 0, 0, 0, 0};
        for (int number = 0; number <= 10; number++) {
            int n = number;
            CHECK.due("below " + n, due[n], () -> x.spoils(0, 5, n));
        }
        x.years(1);
        CHECK.due("in 40 years from year 1", 40, () -> x.spoils(0, 5, 2));
        CHECK.due("never below 1", -1, () -> x.spoils(0, 5, 1));
        CHECK.due("in 39 years now", 39, () -> x.spoils(0, 5, 3));
        JarCabinet nine = Check.with(Check.jar("honey", 0, 0, 0, 0, "999999"));
        CHECK.due("9 is not below 9", -1, () -> nine.spoils(0, 0, 9));
        CHECK.due("9 is below 10", 0, () -> nine.spoils(0, 0, 10));
        JarCabinet nought = Check.with(Check.jar("honey", 0, 0, 0, 0, "000000"));
        CHECK.due("0 is not below 0", -1, () -> nought.spoils(0, 0, 0));
        CHECK.due("0 is below 1", 0, () -> nought.spoils(0, 0, 1));
    }

    private static void ripeByForty() {
        CHECK.says("RIPE: the first N (0 to 40) by which it is the greatest; how much.");
        String[] laws = {"", "add 1 if year<1", "add 1 if year>0", "add 1 if year>38", "add 1 if year>39",
            "add 1 if year>40", "add 1 if year>3 and year<5;add 1 if year>7 and year<9", "less 9", "add 9;add 9 if year>5",
            "less 1 if year<40"};
        int[] first = {0, 0, 1, 39, 40, 0, 4, 0, 0, 40};
        int[] much = {5, 6, 6, 6, 6, 5, 6, 0, 9, 5};
        for (int k = 0; k < laws.length; k++) {
            int l = k;
            JarCabinet x = one(1, 0, laws[k]);
            CHECK.due("first by " + laws[l], first[l], () -> x.ripe(0, 3, false));
            CHECK.due("how much by " + laws[l], much[l], () -> x.ripe(0, 3, true));
        }
    }

    private static void goesByForty() {
        CHECK.says("GOES: the first N (1 to 40) AHEAD by which a JAR has POPPED; none (also without SPOONS).");
        String[] laws = {"pop", "pop if year>0", "pop if year>37", "pop if year>38", "pop if year>39", "pop if year>40",
            "add 1"};
        int[] due = {1, 2, 39, 40, -1, -1, -1};
        for (int k = 0; k < laws.length; k++) {
            int l = k;
            CHECK.due("by " + laws[l], due[l], () -> one(1, 0, laws[l]).goes(0));
            CHECK.due("without spoons by " + laws[l], -1, () -> one(0, 0, laws[l]).goes(0));
        }
        JarCabinet x = one(1, 0, "pop if year>39");
        x.years(1);
        CHECK.due("in 40 years from year 1", 40, () -> x.goes(0));
        x.ask(0, 0);
        CHECK.due("the last spoon is gone", -1, () -> x.goes(0));
    }

    private static void trialsOfThirty() {
        CHECK.says("TRIAL of N YEARS (0 to 30) from now (draws, too; nothing stays): SPOONS of all then; ELECTIONS in it.");
        JarCabinet x = Check.with(Check.jar("honey", 0, 9, 0, 0, "000000") + ";"
                + Check.jar("honey", 5, 7, 0, 0, "000000"), "pop if year>28 and jar<1;pop if year>29");
        int[][] due = {{0, 16, 0}, {1, 16, 0}, {29, 16, 0}, {30, 7, 1}};
        for (int[] row : due) {
            CHECK.due("spoons behind " + row[0], row[1], () -> x.trial(row[0], false));
            CHECK.due("elections in " + row[0], row[2], () -> x.trial(row[0], true));
            CHECK.due("fewest behind " + row[0], row[1], () -> x.span(row[0], false));
            CHECK.due("most behind " + row[0], row[1], () -> x.span(row[0], true));
        }
        x.years(1);
        CHECK.due("from year 1", 2, () -> x.trial(30, true));
        CHECK.due("no spoon then", 0, () -> x.trial(30, false));
        x.years(30);
        CHECK.due("elections in all", 2, () -> x.count(10));
        CHECK.due("elections in the trial alone", 0, () -> x.trial(30, true));
    }

    /** With wasps 58 a year takes a spoon of the only jar if its second draw is below 58. */
    private static int spoonsBehind(int seed, int years) {
        int spoons = 19;
        for (int year = 0; year < years; year++) {
            boolean come = drawn(seedBehind(seed, 1)) % 100 < 58;
            seed = seedBehind(seed, come ? 3 : 2);
            spoons -= come && spoons > 0 ? 1 : 0;
        }
        return spoons;
    }

    private static int spanned(int first, int last, int years, boolean most) {
        int found = spoonsBehind(first, years);
        for (int seed = first + 1; seed <= last; seed++) {
            int spoons = spoonsBehind(seed, years);
            found = most ? Math.max(found, spoons) : Math.min(found, spoons);
        }
        return found;
    }

    private static void spanOfSixSeeds() {
        CHECK.says("SPAN: the fewest and the most SPOONS behind such TRIALS from SEED 1, 2, .. 6.");
        JarCabinet x = Check.with(Check.jar("honey", 0, 20, 0, 0, "000000") + ";wasps 58");
        x.ask(0, 0);
        for (int years = 0; years <= 30; years++) {
            int n = years;
            x.seed(n);
            CHECK.due("fewest behind " + n, spanned(1, 6, n, false), () -> x.span(n, false));
            CHECK.due("most behind " + n, spanned(1, 6, n, true), () -> x.span(n, true));
            CHECK.due("trial from seed " + n, spoonsBehind(n, n), () -> x.trial(n, false));
        }
        CHECK.due("seeds from 0 on would say otherwise", true, () -> differs(0, 6));
        CHECK.due("seeds from 2 on would say otherwise", true, () -> differs(2, 6));
        CHECK.due("seeds to 5 would say otherwise", true, () -> differs(1, 5));
        CHECK.due("seeds to 7 would say otherwise", true, () -> differs(1, 7));
    }

    /** Whether the answers above tell other seeds from those of 1 to 6. */
    private static boolean differs(int first, int last) {
        boolean found = false;
        for (int years = 0; years <= 30; years++) {
            found |= spanned(first, last, years, false) != spanned(1, 6, years, false)
                    || spanned(first, last, years, true) != spanned(1, 6, years, true);
        }
        return found;
    }
}

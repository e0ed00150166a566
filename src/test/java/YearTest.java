/** Promises 33 to 36, 42 and 43: what is ahead, and years that are tried. */
public final class YearTest {
    private static final Check CHECK = new Check("YearTest");
    private static final String TWO = "jar vinegar at 0 spoons 5 sour 9 seal 1 views 555555;"
            + "jar honey at 1 spoons 4 sour 4 seal 1 views 005500;"
            + "jar water at 5 spoons 0 sour 0 seal 1 views 111111";

    public static void main(String[] args) {
        ahead();
        aheadByLaw();
        spoiling();
        ripening();
        going();
        trials();
        spans();
        CHECK.end();
    }

    private static void ahead() {
        JarCabinet x = Check.with(TWO + ";peel 100;wasps 100");
        x.ask(0, 0);
        int seed = x.seed(1);
        x.seed(seed);
        CHECK.due("sour now", 9, () -> x.ahead(0, 0, 0));
        CHECK.due("sour in 40 years", 49, () -> x.ahead(0, 40, 0));
        CHECK.due("honey does not sour", 4, () -> x.ahead(1, 40, 0));
        CHECK.due("spoons: no wasps", 4, () -> x.ahead(0, 40, 1));
        for (int matter = 0; matter < 6; matter++) {
            int m = matter;
            CHECK.due("advice", x.advice(1, m, true), () -> x.ahead(1, 7, 2 + m));
        }
        CHECK.due("nothing stays", 9, () -> x.jar(0, 3));
        CHECK.due("no year", 0, () -> x.count(4));
        CHECK.due("no draw", seed, () -> x.seed(1));
        CHECK.due("no label is lost", 0, () -> x.wrong(true));
        CHECK.index("no jar, told first", () -> x.ahead(3, 41, 8));
        CHECK.index("jar -1", () -> x.ahead(-1, 0, 0));
        CHECK.argument("41 years", () -> x.ahead(0, 41, 0));
        CHECK.argument("-1 years, told ahead of what", () -> x.ahead(0, -1, 8));
        CHECK.element("what 8", () -> x.ahead(0, 0, 8));
        CHECK.element("what -1", () -> x.ahead(0, 0, -1));
    }

    private static void aheadByLaw() {
        JarCabinet x = Check.with(TWO, "sour 1 if vinegar;pop if sour>10 and vinegar;add 1 if year>2;"
                + "less 5 if spoons<1;add 2 if sour>13");
        x.years(1);
        // sour 10 by year 1, 11 by year 2, popped by year 3: then it sours again
        int[] sour = {10, 11, 11, 12, 13, 14};
        int[] spoons = {5, 5, 0, 0, 0, 0};
        int[] advice = {5, 5, 1, 1, 1, 3};
        for (int n = 0; n < 6; n++) {
            int k = n;
            CHECK.due("sour ahead " + k, sour[k], () -> x.ahead(0, k, 0));
            CHECK.due("spoons ahead " + k, spoons[k], () -> x.ahead(0, k, 1));
            CHECK.due("advice ahead " + k, advice[k], () -> x.ahead(0, k, 5));
        }
        CHECK.due("the one next to it", 4, () -> x.ahead(1, 1, 0));
        CHECK.due("sours by the pop", 14, () -> x.ahead(1, 2, 0));
        CHECK.due("0 at least", 0, () -> x.ahead(2, 0, 2));
        CHECK.due("the elections are not", 0, () -> x.count(10));
    }

    private static void spoiling() {
        JarCabinet x = Check.with(TWO, "less 1 if year>3;less 1 if year>39;add 1 if year>40");
        CHECK.due("now", 0, () -> x.spoils(0, 0, 6));
        CHECK.due("by year 4", 4, () -> x.spoils(0, 0, 5));
        CHECK.due("by year 40", 40, () -> x.spoils(0, 0, 4));
        CHECK.due("never", -1, () -> x.spoils(0, 0, 3));
        CHECK.due("below 0 is none", -1, () -> x.spoils(1, 0, 0));
        CHECK.due("below 10 is all", 0, () -> x.spoils(1, 0, 10));
        CHECK.index("no jar, told first", () -> x.spoils(3, 0, 11));
        CHECK.index("no matter", () -> x.spoils(0, 6, 0));
        CHECK.index("matter -1", () -> x.spoils(0, -1, 0));
        CHECK.argument("number 11", () -> x.spoils(0, 0, 11));
        CHECK.argument("number -1", () -> x.spoils(0, 0, -1));
        x.years(1);
        CHECK.due("from now on", 3, () -> x.spoils(0, 0, 5));
    }

    private static void ripening() {
        JarCabinet x = Check.with(TWO, "add 2 if year>4;add 1 if year>4 and year<6;add 9 if year>40;"
                + "add 2 if year>39 and matter>4");
        CHECK.due("first", 5, () -> x.ripe(0, 0, false));
        CHECK.due("how much", 8, () -> x.ripe(0, 0, true));
        CHECK.due("40 at most", 40, () -> x.ripe(0, 5, false));
        CHECK.due("how much", 9, () -> x.ripe(0, 5, true));
        x.years(1);
        CHECK.due("from now on: by year 41", 40, () -> x.ripe(0, 0, false));
        CHECK.due("how much: 14 is 9 at most", 9, () -> x.ripe(0, 0, true));
        JarCabinet y = Check.with(TWO);
        CHECK.due("always the same: now", 0, () -> y.ripe(1, 0, false));
        CHECK.due("how much", 0, () -> y.ripe(1, 0, true));
        CHECK.index("no jar", () -> x.ripe(3, 0, true));
        CHECK.index("no matter 6", () -> x.ripe(0, 6, false));
        CHECK.index("no matter -1", () -> x.ripe(0, -1, false));
    }

    private static void going() {
        JarCabinet x = Check.with(TWO, "sour 1 if vinegar;pop if sour>10");
        CHECK.due("pops", 3, () -> x.goes(0));
        CHECK.due("pops by the other's pop", 3, () -> x.goes(1));
        CHECK.due("without spoons", -1, () -> x.goes(2));
        CHECK.index("no jar", () -> x.goes(3));
        CHECK.index("jar -1", () -> x.goes(-1));
        Check.law(x, "pop if year>38 and jar<1;pop if year>39");
        CHECK.due("in 40 years", 40, () -> x.goes(0));
        CHECK.due("in 41 years", -1, () -> x.goes(1));
        Check.law(x, "pop");
        CHECK.due("in a year", 1, () -> x.goes(1));
        x.years(1);
        CHECK.due("has popped", -1, () -> x.goes(1));
        CHECK.due("nothing pops without a law", -1, () -> Check.with(TWO).goes(0));
    }

    private static void trials() {
        JarCabinet x = Check.with(TWO + ";wasps 100;peel 50", "sour 1 if vinegar;pop if sour>9 and jar<1");
        x.ask(0, 0);
        x.ask(1, 0);
        x.seed(77);
        int spoons = x.trial(15, false);
        int elections = x.trial(15, true);
        CHECK.due("of 0 years", 7, () -> x.trial(0, false));
        CHECK.due("elections of 0 years", 0, () -> x.trial(0, true));
        CHECK.due("nothing stays", 7, () -> x.count(8));
        CHECK.due("no label is lost", 0, () -> x.wrong(true));
        CHECK.due("no year", 0, () -> x.count(4));
        CHECK.due("no act", 2, () -> x.count(13));
        CHECK.due("no draw", 77, () -> x.seed(77));
        CHECK.argument("31 years", () -> x.trial(31, false));
        CHECK.argument("-1 years", () -> x.trial(-1, true));
        CHECK.due("as the years go", elections, () -> x.years(15));
        CHECK.due("spoons as tried", spoons, () -> x.count(8));
        CHECK.due("an election", 1, () -> x.count(10));
        CHECK.due("elections in it alone", 0, () -> x.trial(30, true));
    }

    /** With wasps 100 and peel 0 the third draw of a year says whose spoon is taken. */
    private static void spans() {
        JarCabinet x = Check.with(TWO.substring(0, TWO.lastIndexOf(';')) + ";wasps 100");
        x.ask(0, 0);
        x.seed(99);
        int fewest = 99;
        int most = 0;
        for (int seed = 1; seed <= 6; seed++) {
            int s = seed;
            int spoons = 8;
            for (int year = 0; year < 3; year++) {
                for (int draw = 0; draw < 3; draw++) {
                    s = 1103515245 * s + 12345;
                }
                spoons -= (s >>> 16 & 32767) % 2 == 0 ? 1 : 0;
            }
            fewest = Math.min(fewest, spoons);
            most = Math.max(most, spoons);
        }
        int low = fewest;
        int high = most;
        CHECK.due("they differ", true, () -> low < high);
        CHECK.due("fewest", low, () -> x.span(3, false));
        CHECK.due("most", high, () -> x.span(3, true));
        CHECK.due("of 0 years", 8, () -> x.span(0, true));
        CHECK.due("nothing stays", 8, () -> x.count(8));
        CHECK.due("the seed stays", 99, () -> x.seed(1));
        CHECK.argument("31 years", () -> x.span(31, true));
        CHECK.argument("-1 years", () -> x.span(-1, false));
    }
}

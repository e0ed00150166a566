/** Promises 7 to 16: what a jar, a place and a need have, and the acts. */
public final class JarTest {
    private static final Check CHECK = new Check("JarTest");
    private static final String THREE = "jar vinegar at 2 spoons 3 sour 10 seal 5 views 905533;"
            + "jar honey at 3 spoons 1 sour 0 seal 3 views 955533;"
            + "jar water at 7 spoons 0 sour 99 seal 1 views 905533;quota 6";

    public static void main(String[] args) {
        jarHas();
        adviceByLaw();
        conditions();
        lightAndNeed();
        answers();
        asking();
        mixing();
        closing();
        labelling();
        moving();
        years();
        popping();
        draws();
        CHECK.end();
    }

    private static void jarHas() {
        JarCabinet x = Check.with(THREE);
        int[][] due = {
            {0, 2, 3, 10, 5, 0, 0, 2, 4, 3},
            {1, 3, 1, 0, 3, 1, 0, 5, 0, 1},
            {2, 7, 0, 99, 1, 2, 0, 2, 1, 1},
        };
        for (int jar = 0; jar < 3; jar++) {
            for (int what = 0; what < 10; what++) {
                int j = jar;
                int w = what;
                CHECK.due("jar " + j + " " + w, due[j][w], () -> x.jar(j, w));
            }
        }
        CHECK.index("jar 3", () -> x.jar(3, 0));
        CHECK.index("jar -1, told first", () -> x.jar(-1, 10));
        CHECK.element("what 10", () -> x.jar(0, 10));
        CHECK.element("what -1", () -> x.jar(0, -1));
        x.ask(0, 0);
        x.label(0, -1);
        CHECK.due("open", 1, () -> x.jar(0, 6));
        CHECK.due("no label", -1, () -> x.jar(0, 5));
        Check.law(x, "less 5 if matter>0 and matter<2");
        CHECK.due("clashes by advice, not by views", 0, () -> x.jar(0, 7));
        CHECK.due("alike by advice, not by views", 6, () -> x.jar(0, 8));
    }

    private static void adviceByLaw() {
        JarCabinet x = Check.with(THREE, "add 3 if matter<2;less 4 if jar>0 and matter<1;add 1;less 9 if open");
        CHECK.due("9 at most", 9, () -> x.advice(0, 0, true));
        CHECK.due("view", 9, () -> x.advice(0, 0, false));
        CHECK.due("0 + 3 + 1", 4, () -> x.advice(0, 1, true));
        CHECK.due("5 + 1", 6, () -> x.advice(0, 2, true));
        CHECK.due("9 + 3 - 4 + 1, all together ahead of the bounds", 9, () -> x.advice(1, 0, true));
        x.ask(0, 3);
        CHECK.due("9 + 3 + 1 - 9", 4, () -> x.advice(0, 0, true));
        CHECK.due("0 at least", 0, () -> x.advice(0, 3, true));
        CHECK.due("view stays", 5, () -> x.advice(0, 3, false));
        CHECK.index("no jar", () -> x.advice(3, 0, true));
        CHECK.index("no matter 6", () -> x.advice(0, 6, false));
        CHECK.index("no matter -1", () -> x.advice(0, -1, true));
    }

    /** Whether a condition holds for jar 1: honey, place 3, spoons 1, sour 0, open, year 4, matter 2. */
    private static void holds(boolean want, String condition) {
        JarCabinet x = Check.with(THREE.replace("at 3 spoons 1", "at 3 spoons 2"));
        x.ask(1, 0);
        x.years(4);
        Check.law(x, "add 1 if " + condition);
        CHECK.due(condition, want ? 6 : 5, () -> x.advice(1, 2, true));
    }

    private static void conditions() {
        holds(true, "honey");
        holds(false, "vinegar");
        holds(false, "water");
        holds(true, "open");
        holds(false, "not open");
        holds(true, "not not open");
        holds(true, "jar>0 and jar<2");
        holds(true, "matter>1 and matter<3");
        holds(true, "view>4 and view<6");
        holds(true, "sour<1");
        holds(false, "sour>0");
        holds(true, "spoons>0 and spoons<2");
        holds(true, "place>2 and place<4");
        holds(true, "year>3 and year<5");
        holds(false, "4>year");
        holds(true, "jar+matter+view+spoons+place+year+5>20");
        holds(false, "jar+matter+view+spoons+place+year+5>21");
        holds(true, "20<jar+matter+view+spoons+place+year+5");
        holds(true, "open or water and water");
        holds(false, "(open or water) and water");
        holds(true, "water and water or open");
        holds(false, "not open or water");
        holds(false, "not (open or water)");
        holds(true, "not open and water or honey");
        holds(false, "not (open and honey) or vinegar");
        holds(true, "water or vinegar or 1<2");
        holds(false, "open and honey and 2<1");
        holds(true, "((not ((not open))))");
        holds(true, "not (water or (vinegar or (open and water)))");
    }

    private static void lightAndNeed() {
        JarCabinet x = Check.with("light 0 3;light 11 9;need 5 2 8;need 0 0 1");
        CHECK.due("light 0", 3, () -> x.light(0));
        CHECK.due("light 11", 9, () -> x.light(11));
        CHECK.due("light 5", 0, () -> x.light(5));
        CHECK.index("light 12", () -> x.light(12));
        CHECK.index("light -1", () -> x.light(-1));
        int[][] due = {{5, 2, 8, 0}, {0, 0, 1, 0}};
        for (int k = 0; k < 2; k++) {
            for (int what = 0; what < 4; what++) {
                int n = k;
                int w = what;
                CHECK.due("need", due[n][w], () -> x.need(n, w));
            }
        }
        CHECK.index("need 2", () -> x.need(2, 0));
        CHECK.index("need -1", () -> x.need(-1, 9));
        CHECK.element("what 4", () -> x.need(0, 4));
        CHECK.element("what -1", () -> x.need(1, -1));
    }

    private static void answers() {
        JarCabinet x = Check.with(THREE + ";need 0 1 4;need 40 1 5;need 41 1 1;need 2 0 9");
        CHECK.due("this year, by spoons and advice", 2, () -> x.need(0, 3));
        CHECK.due("40 years from now", 2, () -> x.need(1, 3));
        CHECK.due("41 years from now", 0, () -> x.need(2, 3));
        CHECK.due("two can", 3, () -> x.need(3, 3));
        Check.law(x, "sour 1;pop if jar<1 and sour>10;less 1 if year>1 and honey");
        CHECK.due("one has popped by then, one says less", 0, () -> x.need(3, 3));
        x.years(1);
        CHECK.due("a need gone by", 0, () -> x.need(0, 3));
        CHECK.due("40 years from now", 2, () -> x.need(2, 3));
    }

    private static void asking() {
        JarCabinet x = Check.with(THREE, "less 2 if open;add 1 if spoons<3");
        CHECK.due("as it is ahead of that", 5, () -> x.ask(0, 2));
        CHECK.due("spoons", 2, () -> x.jar(0, 2));
        CHECK.due("open", 1, () -> x.count(11));
        CHECK.due("again", 4, () -> x.ask(0, 2));
        CHECK.due("the last spoon", 4, () -> x.ask(0, 2));
        CHECK.state("no spoon", () -> x.ask(0, 2));
        CHECK.index("no matter, told first", () -> x.ask(0, 6));
        CHECK.index("no jar", () -> x.ask(3, 0));
        CHECK.index("jar -1", () -> x.ask(-1, 0));
        CHECK.index("matter -1", () -> x.ask(1, -1));
        CHECK.state("none ever", () -> x.ask(2, 0));
        CHECK.due("acts", 3, () -> x.count(13));
        CHECK.due("rows", 3, () -> x.count(12));
    }

    private static void mixing() {
        JarCabinet x = Check.with(THREE, "add 1 if not open and matter>2");
        CHECK.argument("both are one", () -> x.mix(0, 0, 0));
        CHECK.argument("both are one, told ahead of no spoon", () -> x.mix(2, 2, 0));
        CHECK.index("no matter, told first", () -> x.mix(0, 0, 6));
        CHECK.index("no jar", () -> x.mix(3, 3, 0));
        CHECK.index("no other", () -> x.mix(0, -1, 0));
        CHECK.state("the other has no spoon", () -> x.mix(0, 2, 0));
        CHECK.state("the one has no spoon", () -> x.mix(2, 0, 0));
        CHECK.due("nothing was done", 4, () -> x.count(8));
        CHECK.due("nothing is open", 0, () -> x.count(11));
        CHECK.due("as it is ahead of that", 6, () -> x.mix(1, 0, 3));
        CHECK.due("spoons", 2, () -> x.jar(0, 2));
        CHECK.due("spoons", 0, () -> x.jar(1, 2));
        CHECK.due("both open", 3, () -> x.count(11));
        CHECK.state("no spoon any more", () -> x.mix(0, 1, 3));
        CHECK.due("one act", 1, () -> x.count(13));
        JarCabinet y = Check.with(THREE);
        CHECK.due("a clash", 0, () -> y.mix(0, 1, 1));
        CHECK.due("its row", 0, () -> y.log(0, 4));
    }

    private static void closing() {
        JarCabinet x = Check.with(THREE);
        CHECK.due("was not open", false, () -> x.close(0));
        x.ask(0, 0);
        x.ask(1, 0);
        CHECK.due("was open", true, () -> x.close(0));
        CHECK.due("the other one is", 2, () -> x.count(11));
        CHECK.due("was not open", false, () -> x.close(0));
        CHECK.due("spoons stay", 2, () -> x.jar(0, 2));
        CHECK.due("acts", 5, () -> x.count(13));
        CHECK.index("no jar", () -> x.close(3));
        CHECK.index("jar -1", () -> x.close(-1));
    }

    private static void labelling() {
        JarCabinet x = Check.with(THREE);
        CHECK.due("its own", 0, () -> x.label(0, 2));
        CHECK.due("what it was", 2, () -> x.label(0, -1));
        CHECK.due("none", -1, () -> x.label(0, 0));
        CHECK.due("label", 0, () -> x.jar(0, 5));
        CHECK.index("no label 3", () -> x.label(0, 3));
        CHECK.index("no label -2", () -> x.label(0, -2));
        CHECK.index("no jar", () -> x.label(3, 0));
        CHECK.index("jar -1", () -> x.label(-1, 0));
        CHECK.due("acts", 3, () -> x.count(13));
        CHECK.due("the label stays", 0, () -> x.jar(0, 5));
    }

    private static void moving() {
        JarCabinet x = Check.with(THREE);
        CHECK.due("to a free place", -1, () -> x.move(0, 11));
        CHECK.due("place", 11, () -> x.jar(0, 1));
        CHECK.due("two change places", 2, () -> x.move(0, 7));
        CHECK.due("place", 7, () -> x.jar(0, 1));
        CHECK.due("place of the other", 11, () -> x.jar(2, 1));
        CHECK.due("to its own", -1, () -> x.move(0, 7));
        CHECK.due("place", 7, () -> x.jar(0, 1));
        CHECK.index("no place 12", () -> x.move(0, 12));
        CHECK.index("no place -1", () -> x.move(0, -1));
        CHECK.index("no jar", () -> x.move(3, 0));
        CHECK.index("jar -1", () -> x.move(-1, 0));
        CHECK.due("acts", 3, () -> x.count(13));
    }

    private static void years() {
        JarCabinet x = Check.with(THREE);
        CHECK.argument("0 years", () -> x.years(0));
        CHECK.argument("-1 years", () -> x.years(-1));
        CHECK.argument("51 years", () -> x.years(51));
        CHECK.due("1 year", 0, () -> x.years(1));
        CHECK.due("vinegar sours by 1", 11, () -> x.jar(0, 3));
        CHECK.due("honey does not", 0, () -> x.jar(1, 3));
        CHECK.due("50 years", 0, () -> x.years(50));
        CHECK.due("year", 51, () -> x.count(4));
        CHECK.due("sour", 61, () -> x.jar(0, 3));
        x.years(50);
        CHECK.due("99 at most", 99, () -> x.jar(0, 3));
        CHECK.due("acts", 3, () -> x.count(13));
        Check.law(x, "");
        CHECK.due("undo behind a text", false, x::undo);
        JarCabinet y = Check.with(THREE, "sour 7 if matter+view<1;sour 5 if honey;sour 3 if year>0");
        y.advice(2, 4, true);
        y.years(1);
        CHECK.due("matter and view are 0", 17, () -> y.jar(0, 3));
        CHECK.due("both lines", 12, () -> y.jar(1, 3));
        y.years(1);
        CHECK.due("by that year", 27, () -> y.jar(0, 3));
    }

    private static void popping() {
        String row = "jar honey at 4 spoons 1 sour 95 seal 0 views 000000;"
                + "jar honey at 5 spoons 2 sour 50 seal 0 views 000000;"
                + "jar honey at 6 spoons 3 sour 3 seal 0 views 000000;"
                + "jar honey at 7 spoons 0 sour 60 seal 0 views 000000;"
                + "jar honey at 0 spoons 1 sour 0 seal 0 views 000000;"
                + "jar honey at 11 spoons 1 sour 0 seal 0 views 000000";
        JarCabinet x = Check.with(row, "pop if sour>49 and sour<80;sour 2");
        CHECK.due("one pops", 1, () -> x.years(1));
        // 0 sours by 2, then by the 1st one's pop; 2 by that, then by 2; without spoons none pops
        int[] sours = {99, 50, 15, 62, 2, 2};
        int[] spoons = {1, 0, 3, 0, 1, 1};
        for (int jar = 0; jar < 6; jar++) {
            int j = jar;
            CHECK.due("sour of " + j, sours[j], () -> x.jar(j, 3));
            CHECK.due("spoons of " + j, spoons[j], () -> x.jar(j, 2));
        }
        CHECK.due("elections", 1, () -> x.count(10));
        CHECK.due("no more", 0, () -> x.years(1));
        CHECK.due("it sours again", 52, () -> x.jar(1, 3));
        JarCabinet y = Check.with(row, "pop");
        CHECK.due("all with spoons", 5, () -> y.years(3));
        CHECK.due("elections", 5, () -> y.count(10));
        CHECK.due("by both sides, of all by then", 70, () -> y.jar(1, 3));
        CHECK.due("places 0 and 11 are not next to one another", 0, () -> y.jar(4, 3));
    }

    /** The draws from seed 1 are 16838, 5758, 10113, 17515, 31051, 5627, 23010, 7419, .. */
    private static void draws() {
        String jars = THREE + ";peel 39;wasps 14";
        JarCabinet x = Check.with(jars);
        x.years(1);
        CHECK.due("38 is below 39: 5758 modulo 3 has no label", -1, () -> x.jar(1, 5));
        CHECK.due("others have", 0, () -> x.jar(0, 5));
        CHECK.due("13 is below 14, but jar 1 is not open", 4, () -> x.count(8));
        CHECK.due("four draws", seedBehind(4), () -> x.seed(1));
        JarCabinet y = Check.with(jars);
        y.ask(1, 0);
        y.years(1);
        CHECK.due("it has no spoon", 3, () -> y.count(8));
        JarCabinet z = Check.with(jars.replace("at 3 spoons 1", "at 3 spoons 5"));
        z.ask(1, 0);
        z.years(1);
        CHECK.due("a spoon less by wasps", 3, () -> z.jar(1, 2));
        JarCabinet u = Check.with(THREE + ";peel 38;wasps 58");
        u.years(1);
        CHECK.due("38 and 58 are not below", seedBehind(2), () -> u.seed(1));
        CHECK.due("labels stay", 0, () -> u.wrong(true));
        JarCabinet v = Check.with("peel 100;wasps 100");
        v.years(3);
        CHECK.due("without jars, two a year", seedBehind(6), () -> v.seed(1));
        JarCabinet w = new JarCabinet();
        w.years(2);
        CHECK.due("the first is made always", seedBehind(4), () -> w.seed(1));
    }

    private static int seedBehind(int draws) {
        int seed = 1;
        for (int i = 0; i < draws; i++) {
            seed = seed * 1103515245 + 12345;
        }
        return seed;
    }
}

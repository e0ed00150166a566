/** The bounds of every argument of promises 7 to 49, on both sides and far away. */
public final class ArgumentBoundsTest {
    private static final Check CHECK = new Check("ArgumentBoundsTest");

    interface JarCall {
        Object answer(JarCabinet x, int jar);
    }

    public static void main(String[] args) {
        jars();
        jarsBesideNone();
        pairs();
        matters();
        places();
        needs();
        whats();
        counts();
        numbers();
        years();
        anyNumber();
        withoutJars();
        CHECK.end();
    }

    /** A jar's number is right below the number of jars, of which there may be 1 to 10. */
    private static void jarCall(String what, JarCall call) {
        for (int jars : new int[] {1, 2, 9, 10}) {
            CHECK.range(what + " among " + jars, 0, jars - 1, Check.INDEX,
                    n -> call.answer(Check.withJars(jars), n));
        }
        for (int n : new int[] {-1, 0, 1, 9, 10, 32}) {
            CHECK.index(what + " without jars", () -> call.answer(new JarCabinet(), n));
        }
    }

    private static void jars() {
        CHECK.says("IndexOutOfBoundsException: there is no such JAR, MATTER, PLACE, NEED.");
        jarCall("jar", (x, n) -> x.jar(n, 0));
        jarCall("jar's power", (x, n) -> x.jar(n, 9));
        jarCall("advice", (x, n) -> x.advice(n, 0, true));
        jarCall("view", (x, n) -> x.advice(n, 0, false));
        jarCall("ask", (x, n) -> x.ask(n, 0));
        jarCall("close", (x, n) -> x.close(n));
        jarCall("label", (x, n) -> x.label(n, -1));
        jarCall("move", (x, n) -> x.move(n, 11));
        jarCall("ahead", (x, n) -> x.ahead(n, 0, 0));
        jarCall("spoils", (x, n) -> x.spoils(n, 0, 0));
        jarCall("ripe", (x, n) -> x.ripe(n, 0, true));
        jarCall("goes", (x, n) -> x.goes(n));
        jarCall("whose", (x, n) -> x.whose(n));
        jarCall("ring", (x, n) -> x.ring(n));
    }

    /** NONE has a meaning of its own here, so that -2 is the first one below. */
    private static void besideNone(String what, JarCall call) {
        for (int jars : new int[] {1, 2, 9, 10}) {
            CHECK.range(what + " among " + jars, -1, jars - 1, Check.INDEX,
                    n -> call.answer(Check.withJars(jars), n));
        }
    }

    private static void jarsBesideNone() {
        CHECK.says("A LABEL is told (NONE: it is taken off): what it was. "
                + "IndexOutOfBoundsException: there is no such JAR, or LABEL.");
        besideNone("label's label", (x, n) -> x.label(0, n));
        CHECK.says("ARRANGED: how much (jar NONE), or the PLACE of a JAR.");
        besideNone("arranged", (x, n) -> x.arranged(n));
        CHECK.says("HOW OFTEN a JAR was asked (jar NONE: ASKED MOST; NONE).");
        besideNone("asked", (x, n) -> x.asked(n));
        CHECK.index("no jar to label", () -> new JarCabinet().label(0, -1));
        CHECK.index("no jar -1 to label", () -> Check.withJars(1).label(-1, -1));
        CHECK.index("no label of none", () -> Check.withJars(1).label(0, 1));
    }

    private static void pairs() {
        CHECK.says("IllegalArgumentException: a number is none, or two are one.");
        String[] names = {"mix", "mixture", "war"};
        JarCall[] firsts = {(x, n) -> x.mix(n, n == 0 ? 1 : 0, 0), (x, n) -> x.mixture(n, n == 0 ? 1 : 0, 0),
            (x, n) -> x.war(n, n == 0 ? 1 : 0, 0)};
        JarCall[] seconds = {(x, n) -> x.mix(n == 0 ? 1 : 0, n, 0), (x, n) -> x.mixture(n == 0 ? 1 : 0, n, 0),
            (x, n) -> x.war(n == 0 ? 1 : 0, n, 0)};
        JarCall[] sames = {(x, n) -> x.mix(n, n, 0), (x, n) -> x.mixture(n, n, 0), (x, n) -> x.war(n, n, 0)};
        for (int k = 0; k < 3; k++) {
            int c = k;
            for (int jars : new int[] {2, 3, 10}) {
                CHECK.range(names[k] + " first of " + jars, 0, jars - 1, Check.INDEX,
                        n -> firsts[c].answer(Check.withJars(jars), n));
                CHECK.range(names[k] + " second of " + jars, 0, jars - 1, Check.INDEX,
                        n -> seconds[c].answer(Check.withJars(jars), n));
                CHECK.argument(names[k] + " of one", () -> sames[c].answer(Check.withJars(jars), 0));
                CHECK.argument(names[k] + " of the last one", () -> sames[c].answer(Check.withJars(jars), jars - 1));
                CHECK.index(names[k] + " of none", () -> sames[c].answer(Check.withJars(jars), jars));
                CHECK.index(names[k] + " of -1", () -> sames[c].answer(Check.withJars(jars), -1));
            }
            CHECK.argument(names[k] + " of the only one", () -> sames[c].answer(Check.withJars(1), 0));
            CHECK.index(names[k] + " of the only one and none", () -> firsts[c].answer(Check.withJars(1), 0));
        }
    }

    private static void matters() {
        CHECK.says("MATTERS 0 to 5.");
        CHECK.range("advice of matter", 0, 5, Check.INDEX, n -> Check.withJars(1).advice(0, n, true));
        CHECK.range("view of matter", 0, 5, Check.INDEX, n -> Check.withJars(1).advice(0, n, false));
        CHECK.range("view of matter of the last", 0, 5, Check.INDEX, n -> Check.withJars(10).advice(9, n, false));
        CHECK.range("ask of matter", 0, 5, Check.INDEX, n -> Check.withJars(1).ask(0, n));
        CHECK.range("mix of matter", 0, 5, Check.INDEX, n -> Check.withJars(2).mix(0, 1, n));
        CHECK.range("mixture of matter", 0, 5, Check.INDEX, n -> Check.withJars(2).mixture(0, 1, n));
        CHECK.range("best of matter", 0, 5, Check.INDEX, n -> Check.withJars(2).best(n, 0));
        CHECK.range("best of matter without jars", 0, 5, Check.INDEX, n -> new JarCabinet().best(n, 0));
        CHECK.range("war of matter", 0, 5, Check.INDEX, n -> Check.withJars(2).war(0, 1, n));
        CHECK.range("spoils of matter", 0, 5, Check.INDEX, n -> Check.withJars(1).spoils(0, n, 0));
        CHECK.range("ripe of matter", 0, 5, Check.INDEX, n -> Check.withJars(1).ripe(0, n, false));
        CHECK.range("led of matter", 0, 5, Check.INDEX, n -> Check.withJars(1).led(n));
        CHECK.range("led of matter without jars", 0, 5, Check.INDEX, n -> new JarCabinet().led(n));
        JarCabinet x = Check.withJars(1);
        for (int matter = 0; matter < 6; matter++) {
            int m = matter;
            CHECK.due("view of " + m, m, () -> x.advice(0, m, false));
        }
    }

    private static void places() {
        CHECK.says("LIGHT of a PLACE.");
        CHECK.range("light", 0, 11, Check.INDEX, n -> new JarCabinet().light(n));
        CHECK.says("Moved; if another JAR has that PLACE, that one comes to where it was: the JAR; NONE.");
        CHECK.range("move", 0, 11, Check.INDEX, n -> Check.withJars(1).move(0, n));
        CHECK.range("move of ten", 0, 11, Check.INDEX, n -> Check.withJars(10).move(9, n));
        CHECK.says("FALLS from a PLACE (place NONE: WORST).");
        CHECK.range("falls", -1, 11, Check.INDEX, n -> new JarCabinet().falls(n));
        CHECK.range("falls with jars", -1, 11, Check.INDEX, n -> Check.withJars(10).falls(n));
    }

    private static void needs() {
        CHECK.says("Of a NEED what 0 the YEAR, 1 the MATTER, 2 LOW, 3 ANSWERS, as bits.");
        for (int needs : new int[] {1, 2, 9, 10}) {
            String text = "need 4 5 6;".repeat(needs - 1) + "need 4 5 6";
            for (int what : new int[] {0, 3}) {
                CHECK.range("need among " + needs, 0, needs - 1, Check.INDEX, n -> Check.with(text).need(n, what));
            }
        }
        for (int n : new int[] {-1, 0, 1, 9, 10}) {
            CHECK.index("need of none", () -> new JarCabinet().need(n, 0));
            CHECK.index("need of none beside jars", () -> Check.withJars(10).need(n, 0));
        }
    }

    private static void whats() {
        CHECK.says("7 CLASHES, 8 ALIKE (as bits), 9 POWER. NoSuchElementException: another what.");
        CHECK.range("jar's what", 0, 9, Check.ELEMENT, n -> Check.withJars(3).jar(2, n));
        CHECK.says("3 ANSWERS, as bits. NoSuchElementException: another what.");
        CHECK.range("need's what", 0, 3, Check.ELEMENT, n -> Check.with("need 0 0 1").need(0, n));
        CHECK.says("2 and on ADVICE of MATTER 0 and on (to 7).");
        CHECK.range("ahead's what", 0, 7, Check.ELEMENT, n -> Check.withJars(3).ahead(2, 40, n));
        CHECK.range("ahead's what now", 0, 7, Check.ELEMENT, n -> Check.withJars(3).ahead(2, 0, n));
        JarCabinet x = Check.withJars(1);
        for (int matter = 0; matter < 6; matter++) {
            int m = matter;
            CHECK.due("advice ahead of " + m, m, () -> x.ahead(0, 40, 2 + m));
        }
        CHECK.says("4 what came of it; - 99 without. NoSuchElementException: another what.");
        CHECK.range("log's what", 0, 4, Check.ELEMENT, n -> new JarCabinet().log(0, n));
        JarCabinet y = Check.withJars(1);
        y.ask(0, 3);
        CHECK.range("log's what of a row", 0, 4, Check.ELEMENT, n -> y.log(0, n));
        CHECK.range("log's what of no row", 0, 4, Check.ELEMENT, n -> y.log(1, n));
        CHECK.range("log's what of row -1", 0, 4, Check.ELEMENT, n -> y.log(-1, n));
        for (int ago : new int[] {-1, 1, 59, 60, Integer.MIN_VALUE, Integer.MAX_VALUE}) {
            for (int what = 0; what < 5; what++) {
                int w = what;
                CHECK.due("log " + ago + " ago", -99, () -> y.log(ago, w));
            }
        }
        CHECK.due("log 0 ago", 3, () -> y.log(0, 4));
    }

    private static void counts() {
        CHECK.says("13 acts that can be UNDONE. NONE for another what.");
        JarCabinet x = Check.with("quota 90;peel 100;wasps 100;" + Check.jar("honey", 0, 20, 0, 9, "000000"));
        x.ask(0, 0);
        for (int what : new int[] {-1, 14, 15, 32, 46, -2, Integer.MIN_VALUE, Integer.MAX_VALUE}) {
            CHECK.due("count " + what, -1, () -> x.count(what));
        }
        int[] due = {1, 0, 1, -1, 0, 90, 100, 100, 19, 9, 0, 1, 1, 1};
        for (int what = 0; what < 14; what++) {
            int w = what;
            CHECK.due("count " + w, due[w], () -> x.count(w));
        }
    }

    private static void numbers() {
        CHECK.says("BEST MIX; NONE. IllegalArgumentException: the NUMBER is none.");
        CHECK.range("best", 0, 9, Check.ARGUMENT, n -> Check.withJars(2).best(0, n));
        CHECK.range("best of one jar", 0, 9, Check.ARGUMENT, n -> Check.withJars(1).best(0, n));
        CHECK.range("best without jars", 0, 9, Check.ARGUMENT, n -> new JarCabinet().best(0, n));
        CHECK.says("COVER, as bits; NONE. IllegalArgumentException: the NUMBER (0 to 9) is none.");
        CHECK.range("cover", 0, 9, Check.ARGUMENT, n -> Check.withJars(2).cover(n));
        CHECK.range("cover without jars", 0, 9, Check.ARGUMENT, n -> new JarCabinet().cover(n));
        CHECK.says("SPOILS; NONE. IllegalArgumentException: the NUMBER (0 to 10) is none.");
        CHECK.range("spoils", 0, 10, Check.ARGUMENT, n -> Check.withJars(2).spoils(1, 0, n));
    }

    private static void years() {
        CHECK.says("So many YEARS more (1 to 50): ELECTIONS in it. IllegalArgumentException: they are none.");
        CHECK.range("years", 1, 50, Check.ARGUMENT, n -> new JarCabinet().years(n));
        CHECK.range("years of jars", 1, 50, Check.ARGUMENT, n -> Check.withJars(10).years(n));
        CHECK.says("AHEAD by N YEARS (0 to 40)");
        CHECK.range("ahead", 0, 40, Check.ARGUMENT, n -> Check.withJars(1).ahead(0, n, 0));
        CHECK.says("TRIAL of N YEARS (0 to 30) from now");
        CHECK.range("trial", 0, 30, Check.ARGUMENT, n -> Check.withJars(1).trial(n, false));
        CHECK.range("trial's elections", 0, 30, Check.ARGUMENT, n -> Check.withJars(1).trial(n, true));
        CHECK.range("trial without jars", 0, 30, Check.ARGUMENT, n -> new JarCabinet().trial(n, false));
        CHECK.says("SPAN: the fewest (most false), or the most. IllegalArgumentException: N is none.");
        CHECK.range("span", 0, 30, Check.ARGUMENT, n -> Check.withJars(1).span(n, false));
        CHECK.range("span's most", 0, 30, Check.ARGUMENT, n -> Check.withJars(1).span(n, true));
        CHECK.range("span without jars", 0, 30, Check.ARGUMENT, n -> new JarCabinet().span(n, true));
    }

    private static void anyNumber() {
        CHECK.says("SEED: what it was.");
        JarCabinet x = Check.withJars(3);
        int was = 1;
        for (int n : new int[] {0, -1, Integer.MIN_VALUE, Integer.MAX_VALUE, 1}) {
            int due = was;
            CHECK.due("seed " + n, due, () -> x.seed(n));
            was = n;
        }
        CHECK.says("Sets are bits; of none they count for nothing.");
        for (int none : new int[] {8, 1 << 10, 1 << 30, Integer.MIN_VALUE, -8}) {
            for (int set = 0; set < 8; set++) {
                int s = set;
                CHECK.due("agree of " + set + " and none", x.agree(s), () -> x.agree(s | none));
                CHECK.due("wins of " + set + " and none", x.wins(s), () -> x.wins(s | none));
            }
        }
        CHECK.due("sets of none alone do not win", false, () -> x.wins(-8));
        JarCabinet ten = Check.with("quota 10");
        for (int k = 0; k < 10; k++) {
            Check.cabinet(ten, Check.jar("water", k, 1, 0, 1, "00000" + k));
        }
        CHECK.due("all ten", true, () -> ten.wins(1023));
        CHECK.due("all bits", true, () -> ten.wins(-1));
        CHECK.due("all but the tenth", false, () -> ten.wins(~512));
        CHECK.due("all but the first", false, () -> ten.wins(~1));
        CHECK.due("all but the eleventh, who is none", true, () -> ten.wins(~1024));
        CHECK.due("the tenth and none", 63, () -> ten.agree(512 | ~1023));
        CHECK.due("the tenth and the first", 31, () -> ten.agree(513 | ~1023));
    }

    /** What an empty shelf answers to all that has no jar's number. */
    private static void withoutJars() {
        CHECK.says("`JarCabinet()`: An empty shelf.");
        JarCabinet x = new JarCabinet();
        CHECK.due("best", -1, () -> x.best(5, 9));
        CHECK.due("coalition", 0, () -> x.coalition());
        CHECK.due("agree", 63, () -> x.agree(-1));
        CHECK.due("cover", -1, () -> x.cover(0));
        CHECK.due("plan", 0, () -> x.plan());
        CHECK.due("unmet", -1, () -> x.unmet());
        CHECK.due("tastes", 0, () -> x.tastes(false));
        CHECK.due("tastes otherwise", 0, () -> x.tastes(true));
        CHECK.due("next", -1, () -> x.next());
        CHECK.due("harm", 0, () -> x.harm());
        CHECK.due("arranged", 0, () -> x.arranged(-1));
        CHECK.due("falls", 0, () -> x.falls(0));
        CHECK.due("worst", 0, () -> x.falls(-1));
        CHECK.due("wins", false, () -> x.wins(-1));
        CHECK.due("smallest", -1, () -> x.smallest(false));
        CHECK.due("deal", -1, () -> x.smallest(true));
        CHECK.due("dummies", 0, () -> x.dummies());
        CHECK.due("wrong", 0, () -> x.wrong(false));
        CHECK.due("nameless", 0, () -> x.wrong(true));
        CHECK.due("asked most", -1, () -> x.asked(-1));
        CHECK.due("led", -1, () -> x.led(0));
        CHECK.due("trial", 0, () -> x.trial(30, false));
        CHECK.due("trial's elections", 0, () -> x.trial(30, true));
        CHECK.due("span", 0, () -> x.span(30, true));
        CHECK.due("log", -99, () -> x.log(0, 0));
        CHECK.due("undo", false, () -> x.undo());
        CHECK.due("back", false, () -> x.back());
        CHECK.due("years", 0, () -> x.years(50));
    }
}

/** The bounds of acts, of THE LOG, of what is undone and kept: promises 11 to 15, 37 to 41, 44 to 49. */
public final class MemoryBoundsTest {
    private static final Check CHECK = new Check("MemoryBoundsTest");

    public static void main(String[] args) {
        lastSpoon();
        lastSpoonOfTwo();
        lids();
        labels();
        places();
        wrongLabels();
        rings();
        sixtyRows();
        sixtyRowsOfMixtures();
        askedMost();
        latestOfMatter();
        twelveActs();
        twelveActsRound();
        yearsOfOneCall();
        rowsComeBack();
        everyActAlone();
        textsForget();
        oneImage();
        imageIsOfAll();
        imageAndActs();
        undoneButForTape();
        startOfAll();
        CHECK.end();
    }

    private static JarCabinet spoons(int... spoons) {
        JarCabinet x = new JarCabinet();
        for (int k = 0; k < spoons.length; k++) {
            Check.cabinet(x, Check.jar("honey", k, spoons[k], 0, 0, "543210"));
        }
        return x;
    }

    private static void lastSpoon() {
        CHECK.says("ASKED: the ADVICE (as it is ahead of that). IllegalStateException: no SPOON.");
        for (int spoons : new int[] {0, 1, 2, 20}) {
            JarCabinet x = spoons(spoons);
            for (int n = 0; n < spoons; n++) {
                CHECK.due("spoon " + n + " of " + spoons, 4, () -> x.ask(0, 1));
            }
            CHECK.due("spoons", 0, () -> x.jar(0, 2));
            CHECK.state("none of " + spoons + " is left", () -> x.ask(0, 1));
            CHECK.due("rows", spoons, () -> x.count(12));
            CHECK.due("open", spoons > 0 ? 1 : 0, () -> x.count(11));
        }
        JarCabinet y = Check.with(Check.jar("honey", 0, 1, 0, 0, "555555"), "add 1 if open;add 2 if spoons<1");
        CHECK.due("as it is ahead of that", 5, () -> y.ask(0, 0));
        CHECK.due("as it is behind that", 8, () -> y.advice(0, 0, true));
    }

    private static void lastSpoonOfTwo() {
        CHECK.says("MIXED: the MIXTURE (as it is ahead of that). IllegalArgumentException: both are one; "
                + "IllegalStateException: one has no SPOON.");
        int[][] rows = {{0, 0, 0}, {0, 1, 0}, {1, 0, 0}, {1, 1, 1}, {2, 1, 1}, {1, 2, 1}};
        for (int[] row : rows) {
            JarCabinet x = spoons(row[0], row[1]);
            CHECK.due("mix by " + row[0] + " and " + row[1], row[2] == 1 ? 5 : Check.STATE, () -> x.mix(0, 1, 0));
            CHECK.due("spoons of the first", row[0] - row[2], () -> x.jar(0, 2));
            CHECK.due("spoons of the second", row[1] - row[2], () -> x.jar(1, 2));
            CHECK.due("open", row[2] == 1 ? 3 : 0, () -> x.count(11));
            CHECK.due("rows", row[2], () -> x.count(12));
            CHECK.due("acts", row[2], () -> x.count(13));
        }
        JarCabinet y = Check.with(Check.jar("honey", 0, 1, 0, 0, "444444") + ";" + Check.jar("water", 1, 1, 0, 0, "444444"),
                "add 5 if open and honey");
        CHECK.due("no clash ahead of that", 4, () -> y.mix(0, 1, 0));
        CHECK.due("a clash behind that", 0, () -> y.mixture(0, 1, 0));
        CHECK.due("what came of it", 4, () -> y.log(0, 4));
    }

    private static void lids() {
        CHECK.says("A lid is put on: whether it was OPEN.");
        JarCabinet x = Check.withJars(10);
        CHECK.due("not at first", false, () -> x.close(9));
        x.ask(9, 0);
        x.ask(0, 0);
        CHECK.due("the last is open", 513, () -> x.count(11));
        CHECK.due("it was", true, () -> x.close(9));
        CHECK.due("the first is still", 1, () -> x.count(11));
        CHECK.due("not any more", false, () -> x.close(9));
        x.ask(9, 0);
        CHECK.due("open again", 513, () -> x.count(11));
        CHECK.due("of the jar", 1, () -> x.jar(9, 6));
        CHECK.due("of another jar", 0, () -> x.jar(8, 6));
    }

    private static void labels() {
        CHECK.says("a LABEL: the number of a JAR (at first its own), or none;");
        JarCabinet x = Check.withJars(10);
        for (int jar = 0; jar < 10; jar++) {
            int j = jar;
            CHECK.due("at first its own", j, () -> x.jar(j, 5));
        }
        CHECK.due("the greatest", 0, () -> x.label(0, 9));
        CHECK.index("one more", () -> x.label(0, 10));
        CHECK.due("the least", 9, () -> x.label(0, 0));
        CHECK.due("none", 0, () -> x.label(0, -1));
        CHECK.due("none again", -1, () -> x.label(0, -1));
        CHECK.index("below none", () -> x.label(0, -2));
        CHECK.due("none still", -1, () -> x.jar(0, 5));
    }

    private static void places() {
        CHECK.says("a JAR is moved to a PLACE that none has, or two change PLACES;");
        JarCabinet x = Check.withJars(10);
        CHECK.due("to the last place", -1, () -> x.move(0, 11));
        CHECK.due("to the first place, which is free", -1, () -> x.move(9, 0));
        CHECK.due("to where another one is", 9, () -> x.move(0, 0));
        CHECK.due("it is there", 0, () -> x.jar(0, 1));
        CHECK.due("the other one is where it was", 11, () -> x.jar(9, 1));
        CHECK.due("to its own place", -1, () -> x.move(0, 0));
        CHECK.due("it is there still", 0, () -> x.jar(0, 1));
        CHECK.index("to place 12", () -> x.move(0, 12));
        CHECK.index("to place -1", () -> x.move(0, -1));
        int places = 0;
        for (int jar = 0; jar < 10; jar++) {
            places |= 1 << x.jar(jar, 1);
        }
        int due = places;
        CHECK.due("one's own alone", 10, () -> Integer.bitCount(due));
        CHECK.due("acts, also the one to its own place", 4, () -> x.count(13));
    }

    private static void wrongLabels() {
        CHECK.says("WRONG: JARS whose LABEL is that of another one, as bits. NAMELESS: those without. WHOSE: the JAR with a "
                + "LABEL (of several the least; none).");
        JarCabinet x = Check.withJars(10);
        for (int jar = 0; jar < 10; jar++) {
            int j = jar;
            CHECK.due("whose " + j, j, () -> x.whose(j));
        }
        for (int jar = 0; jar < 10; jar++) {
            x.label(jar, 9);
        }
        CHECK.due("all but the last are wrong", 511, () -> x.wrong(false));
        CHECK.due("the least", 0, () -> x.whose(9));
        CHECK.due("none", -1, () -> x.whose(8));
        for (int jar = 0; jar < 9; jar++) {
            x.label(jar, -1);
        }
        CHECK.due("none is wrong", 0, () -> x.wrong(false));
        CHECK.due("nine are nameless", 511, () -> x.wrong(true));
        CHECK.due("the last has it", 9, () -> x.whose(9));
        x.label(9, -1);
        CHECK.due("all are nameless", 1023, () -> x.wrong(true));
        CHECK.due("none has it", -1, () -> x.whose(9));
        CHECK.index("no label of none", () -> x.whose(-1));
        CHECK.index("no label of an 11th", () -> x.whose(10));
    }

    private static void rings() {
        CHECK.says("RING of a JAR: all to which one comes by going on to the JAR whose LABEL one has, as long as it has one "
                + "(itself, too), as bits.");
        JarCabinet x = Check.withJars(10);
        for (int jar = 0; jar < 10; jar++) {
            int j = jar;
            CHECK.due("itself", 1 << j, () -> x.ring(j));
        }
        for (int jar = 0; jar < 9; jar++) {
            x.label(jar, jar + 1);
        }
        CHECK.due("all ten, to the end", 1023, () -> x.ring(0));
        CHECK.due("the last two", 768, () -> x.ring(8));
        CHECK.due("the last one", 512, () -> x.ring(9));
        x.label(9, 0);
        for (int jar = 0; jar < 10; jar++) {
            int j = jar;
            CHECK.due("all ten, round", 1023, () -> x.ring(j));
        }
        x.label(9, -1);
        CHECK.due("all ten, until one has none", 1023, () -> x.ring(0));
        x.label(4, -1);
        CHECK.due("five, until one has none", 31, () -> x.ring(0));
        CHECK.due("one without", 16, () -> x.ring(4));
    }

    private static void sixtyRows() {
        CHECK.says("THE LOG: the latest 60 that were ASKED or MIXED: YEAR, the JAR, the other one (none), the MATTER, "
                + "what came of it.");
        JarCabinet x = spoons(20, 20, 20, 20);
        for (int n = 0; n < 64; n++) {
            x.ask(n % 4, n % 6);
            int made = n + 1;
            CHECK.due("rows behind " + made, Math.min(60, made), () -> x.count(12));
        }
        for (int ago : new int[] {0, 1, 58, 59}) {
            int row = 63 - ago;
            int[] due = {0, row % 4, -1, row % 6, 5 - row % 6};
            for (int what = 0; what < 5; what++) {
                int w = what;
                CHECK.due("row " + ago + " ago, " + w, due[w], () -> x.log(ago, w));
            }
        }
        for (int what = 0; what < 5; what++) {
            int w = what;
            CHECK.due("row 60 ago", -99, () -> x.log(60, w));
            CHECK.due("row -1 ago", -99, () -> x.log(-1, w));
        }
        CHECK.due("asked by the log alone", 15, () -> x.asked(0));
        x.years(50);
        x.ask(0, 0);
        x.years(1);
        x.ask(0, 0);
        int[] years = {51, 50, 0};
        for (int ago = 0; ago < 3; ago++) {
            int a = ago;
            CHECK.due("year of row " + ago, years[a], () -> x.log(a, 0));
        }
    }

    /** A mixture is one row, in which both jars were asked. */
    private static void sixtyRowsOfMixtures() {
        JarCabinet x = spoons(20, 20, 20, 20, 20, 20, 20, 20);
        for (int n = 0; n < 60; n++) {
            x.mix(n / 20 * 2, n / 20 * 2 + 1, n % 6);
        }
        CHECK.due("rows", 60, () -> x.count(12));
        CHECK.due("the one", 20, () -> x.asked(0));
        CHECK.due("the other", 20, () -> x.asked(1));
        x.mix(7, 6, 2);
        CHECK.due("rows", 60, () -> x.count(12));
        CHECK.due("the one", 19, () -> x.asked(0));
        CHECK.due("the other", 19, () -> x.asked(1));
        CHECK.due("most", 2, () -> x.asked(-1));
        int[] due = {0, 7, 6, 2, 3};
        int[] oldest = {0, 0, 1, 1, 4};
        for (int what = 0; what < 5; what++) {
            int w = what;
            CHECK.due("the latest row " + w, due[w], () -> x.log(0, w));
            CHECK.due("the oldest row " + w, oldest[w], () -> x.log(59, w));
            CHECK.due("none is older " + w, -99, () -> x.log(60, w));
        }
    }

    private static void askedMost() {
        CHECK.says("ASKED MOST by THE LOG: the JAR (rows as the one or the other; of several the least; none). "
                + "HOW OFTEN one was.");
        JarCabinet x = spoons(20, 20, 20);
        CHECK.due("none", -1, () -> x.asked(-1));
        CHECK.due("never", 0, () -> x.asked(2));
        x.ask(2, 0);
        CHECK.due("the last one", 2, () -> x.asked(-1));
        x.ask(0, 0);
        CHECK.due("of two the least", 0, () -> x.asked(-1));
        x.mix(1, 2, 0);
        CHECK.due("as the other one", 2, () -> x.asked(-1));
        x.mix(0, 1, 0);
        CHECK.due("of three the least", 0, () -> x.asked(-1));
        for (int jar = 0; jar < 3; jar++) {
            int j = jar;
            CHECK.due("how often " + j, 2, () -> x.asked(j));
        }
        x.undo();
        CHECK.due("by what is in the log", 2, () -> x.asked(-1));
        x.undo();
        x.undo();
        x.undo();
        CHECK.due("none any more", -1, () -> x.asked(-1));
    }

    private static void latestOfMatter() {
        CHECK.says("LED: the JAR of the latest row of a MATTER; none.");
        JarCabinet x = spoons(20, 20, 20, 20, 3);
        x.ask(4, 5);
        CHECK.due("the only one", 4, () -> x.led(5));
        CHECK.due("none of another", -1, () -> x.led(4));
        x.mix(3, 4, 0);
        CHECK.due("the one of two", 3, () -> x.led(0));
        for (int n = 0; n < 58; n++) {
            x.ask(n % 3, 1 + n % 3);
        }
        CHECK.due("the sixtieth", 4, () -> x.led(5));
        x.ask(1, 1);
        CHECK.due("the sixty-first", -1, () -> x.led(5));
        CHECK.due("the next one is there", 3, () -> x.led(0));
        x.ask(2, 1);
        CHECK.due("and is not any more", -1, () -> x.led(0));
        CHECK.due("asked", 0, () -> x.asked(4));
        x.undo();
        CHECK.due("it is back", 3, () -> x.led(0));
        x.undo();
        CHECK.due("they are back", 4, () -> x.led(5));
        CHECK.due("asked as the one and the other", 2, () -> x.asked(4));
    }

    private static void twelveActs() {
        CHECK.says("UNDONE: the latest ACT not undone yet (12 are remembered; YEARS of one call are one): all is as ahead of it");
        for (int acts : new int[] {0, 1, 11, 12, 13, 24, 25}) {
            JarCabinet x = new JarCabinet();
            for (int n = 0; n < acts; n++) {
                x.years(1);
            }
            int kept = Math.min(12, acts);
            CHECK.due("acts of " + acts, kept, () -> x.count(13));
            for (int n = 1; n <= kept; n++) {
                CHECK.due("undone " + n, true, x::undo);
                int left = kept - n;
                int year = acts - n;
                CHECK.due("acts left", left, () -> x.count(13));
                CHECK.due("year", year, () -> x.count(4));
            }
            CHECK.due("no more of " + acts, false, x::undo);
            CHECK.due("nothing happens", acts - kept, () -> x.count(4));
            CHECK.due("none is left", 0, () -> x.count(13));
        }
    }

    /** Acts undone make room for others: 12 in all, whatever was undone between them. */
    private static void twelveActsRound() {
        JarCabinet x = new JarCabinet();
        for (int n = 0; n < 12; n++) {
            x.years(1);
        }
        for (int n = 0; n < 5; n++) {
            x.undo();
        }
        for (int n = 0; n < 5; n++) {
            x.years(10);
        }
        CHECK.due("12 again", 12, () -> x.count(13));
        CHECK.due("year", 57, () -> x.count(4));
        x.years(10);
        CHECK.due("12 still", 12, () -> x.count(13));
        int[] years = {57, 47, 37, 27, 17, 7, 6, 5, 4, 3, 2, 1};
        for (int year : years) {
            CHECK.due("undone", true, x::undo);
            CHECK.due("year", year, () -> x.count(4));
        }
        CHECK.due("the first is not remembered", false, x::undo);
        CHECK.due("year", 1, () -> x.count(4));
    }

    private static void yearsOfOneCall() {
        JarCabinet x = Check.with(Check.jar("vinegar", 0, 1, 0, 0, "000000") + ";peel 100");
        x.seed(9);
        x.years(50);
        CHECK.due("one act", 1, () -> x.count(13));
        x.undo();
        CHECK.due("year", 0, () -> x.count(4));
        CHECK.due("sour", 0, () -> x.jar(0, 3));
        CHECK.due("label", 0, () -> x.jar(0, 5));
        CHECK.due("seed", 9, () -> x.seed(9));
        CHECK.due("no act", 0, () -> x.count(13));
    }

    private static void rowsComeBack() {
        CHECK.says("all is as ahead of it (but for the TAPE, fault(), THE IMAGE).");
        JarCabinet x = spoons(20, 20, 20, 20);
        for (int n = 0; n < 60; n++) {
            x.ask(n / 20, n % 6);
        }
        x.ask(3, 5);
        CHECK.due("row 59 ago is the second", 1, () -> x.log(59, 3));
        x.undo();
        CHECK.due("row 59 ago is the first again", 0, () -> x.log(59, 3));
        for (int n = 0; n < 12; n++) {
            x.ask(3, 5);
        }
        CHECK.due("row 59 ago is the thirteenth", 12 % 6, () -> x.log(59, 3));
        CHECK.due("asked of jar 0", 8, () -> x.asked(0));
        for (int n = 0; n < 12; n++) {
            x.undo();
        }
        CHECK.due("rows", 60, () -> x.count(12));
        CHECK.due("asked of jar 0", 20, () -> x.asked(0));
        for (int ago : new int[] {0, 11, 12, 47, 48, 59}) {
            CHECK.due("jar of row " + ago, (59 - ago) / 20, () -> x.log(ago, 1));
            CHECK.due("matter of row " + ago, (59 - ago) % 6, () -> x.log(ago, 3));
        }
        CHECK.due("no more rows", -99, () -> x.log(60, 0));
        CHECK.due("no act is left", false, x::undo);
    }

    private static void everyActAlone() {
        CHECK.says("ACTS: a JAR is ASKED of a MATTER: it has a SPOON less and is OPEN;");
        String[] names = {"ask", "mix", "close", "label", "label taken off", "own label", "move", "change", "own place",
            "a year", "fifty years"};
        for (int k = 0; k < names.length; k++) {
            JarCabinet x = Check.with(Check.jar("vinegar", 3, 9, 4, 5, "123456") + ";"
                    + Check.jar("honey", 4, 5, 40, 2, "929292") + ";peel 100;wasps 100", "sour 3;pop if sour>45");
            String before = State.of(x);
            act(x, k);
            CHECK.due("one act: " + names[k], 1, () -> x.count(13));
            CHECK.due("undone: " + names[k], true, x::undo);
            CHECK.due("all is as ahead of " + names[k], before, () -> State.of(x));
        }
    }

    private static void act(JarCabinet x, int k) {
        switch (k) {
            case 0: x.ask(0, 0); break;
            case 1: x.mix(0, 1, 0); break;
            case 2: x.close(0); break;
            case 3: x.label(0, 1); break;
            case 4: x.label(0, -1); break;
            case 5: x.label(0, 0); break;
            case 6: x.move(0, 11); break;
            case 7: x.move(0, 4); break;
            case 8: x.move(0, 3); break;
            case 9: x.years(1); break;
            default: x.years(50);
        }
    }

    private static void textsForget() {
        CHECK.says("A text, going back: none are remembered.");
        JarCabinet x = spoons(20);
        x.ask(0, 0);
        CHECK.argument("a wrong text", () -> Check.cabinet(x, "peel"));
        CHECK.argument("a wrong law", () -> Check.law(x, "add"));
        CHECK.due("a wrong one forgets none", 1, () -> x.count(13));
        CHECK.due("undone behind it", true, x::undo);
        x.ask(0, 0);
        Check.cabinet(x, "");
        CHECK.due("an empty text", 0, () -> x.count(13));
        CHECK.due("nothing is undone", false, x::undo);
        CHECK.due("the act stays", 19, () -> x.jar(0, 2));
        x.ask(0, 0);
        Check.law(x, "");
        CHECK.due("an empty law", 0, () -> x.count(13));
        CHECK.due("nothing is undone", false, x::undo);
        x.ask(0, 0);
        Check.feed(x, "").tastes(true);
        CHECK.due("tastes are no text", 1, () -> x.count(13));
        x.image();
        CHECK.due("an image kept forgets none", 1, () -> x.count(13));
        x.back();
        CHECK.due("going back", 0, () -> x.count(13));
        CHECK.due("nothing is undone", false, x::undo);
        CHECK.due("spoons", 17, () -> x.jar(0, 2));
    }

    private static void oneImage() {
        CHECK.says("One goes back to THE IMAGE: true; false, and nothing happens, if none was kept.");
        JarCabinet x = new JarCabinet();
        x.years(1);
        CHECK.due("none was kept", false, x::back);
        CHECK.due("year", 1, () -> x.count(4));
        CHECK.due("acts", 1, () -> x.count(13));
        x.image();
        x.years(1);
        CHECK.due("back", true, x::back);
        CHECK.due("year", 1, () -> x.count(4));
        CHECK.due("back where one is", true, x::back);
        CHECK.due("year", 1, () -> x.count(4));
        x.years(5);
        x.image();
        x.years(5);
        CHECK.due("back to the later one", true, x::back);
        CHECK.due("year", 6, () -> x.count(4));
        x.years(7);
        CHECK.due("and again", true, x::back);
        CHECK.due("year", 6, () -> x.count(4));
        CHECK.due("another object has none", false, () -> new JarCabinet().back());
    }

    private static void imageIsOfAll() {
        CHECK.says("THE IMAGE (one) of all may be kept, and gone back to (but for the TAPE, fault() and THE IMAGE itself).");
        JarCabinet empty = new JarCabinet();
        empty.image();
        String nothing = State.of(empty);
        Check.cabinet(empty, Check.jar("vinegar", 3, 9, 4, 5, "123456") + ";light 3 3;need 9 1 1;quota 9;peel 9;wasps 9");
        Check.law(empty, "add 1");
        empty.ask(0, 0);
        empty.years(3);
        empty.seed(5);
        CHECK.due("back to an empty shelf", true, empty::back);
        CHECK.due("all is as then", nothing, () -> State.of(empty));
        CHECK.index("no jar", () -> empty.jar(0, 0));
        JarCabinet x = Check.with(Check.jar("vinegar", 3, 9, 4, 5, "123456") + ";light 3 3;need 9 1 1;quota 9", "add 1");
        x.ask(0, 0);
        x.years(3);
        x.label(0, -1);
        x.seed(5);
        Check.law(x, "add 2;sour 1;pop if sour>9");
        x.image();
        String before = State.of(x);
        Check.cabinet(x, Check.jar("honey", 5, 9, 4, 5, "123456") + ";light 3 9;light 4 4;need 9 2 2;quota 8;peel 7");
        Check.law(x, "");
        x.label(0, 1);
        x.move(0, 5);
        x.mix(0, 1, 5);
        x.close(0);
        x.years(50);
        Check.feed(x, "quota 77");
        x.back();
        CHECK.due("all is as then", before, () -> State.of(x));
        CHECK.due("the tape stays", 2, x::cabinet);
        CHECK.due("its text", 77, () -> x.count(5));
    }

    private static void imageAndActs() {
        JarCabinet x = spoons(20, 20, 20, 20);
        for (int n = 0; n < 60; n++) {
            x.ask(n / 20, n % 6);
        }
        x.image();
        x.undo();
        x.undo();
        CHECK.due("rows behind two undone", 58, () -> x.count(12));
        x.ask(3, 0);
        x.ask(3, 0);
        x.ask(3, 0);
        CHECK.due("the image is not undone", true, x::back);
        CHECK.due("rows", 60, () -> x.count(12));
        CHECK.due("the latest row", 2, () -> x.log(0, 1));
        CHECK.due("its matter", 59 % 6, () -> x.log(0, 3));
        CHECK.due("the oldest row", 0, () -> x.log(59, 3));
        CHECK.due("jar 3 was not asked", 0, () -> x.asked(3));
        CHECK.due("nothing to undo", false, x::undo);
        x.ask(3, 4);
        CHECK.due("undone behind going back", true, x::undo);
        CHECK.due("the oldest row is back", 0, () -> x.log(59, 3));
        CHECK.due("rows", 60, () -> x.count(12));
    }

    private static void undoneButForTape() {
        JarCabinet x = spoons(3);
        CHECK.argument("a fault", () -> Check.cabinet(x, "peel 101"));
        x.ask(0, 0);
        x.image();
        Check.feed(x, "peel 55");
        x.undo();
        CHECK.due("fault stays", 5, x::fault);
        CHECK.due("the image stays", true, x::back);
        CHECK.due("of the act undone", 2, () -> x.jar(0, 2));
        CHECK.due("fault stays", 5, x::fault);
        CHECK.due("the tape stays", 2, x::cabinet);
        CHECK.due("peel", 55, () -> x.count(6));
        CHECK.due("no fault any more", -1, x::fault);
        x.back();
        CHECK.due("going back brings no fault", -1, x::fault);
    }

    private static void startOfAll() {
        CHECK.says("YEAR: 0 at first.");
        CHECK.says("OPEN or not (not at first);");
        JarCabinet x = new JarCabinet();
        int[] due = {0, 0, 0, -1, 0, 1, 0, 0, 0, 0, 0, 0, 0, 0};
        for (int what = 0; what < 14; what++) {
            int w = what;
            CHECK.due("count " + w, due[w], () -> x.count(w));
        }
        CHECK.due("a jar", 0, () -> Check.withJars(1).jar(0, 6));
        JarCabinet most = new JarCabinet();
        for (int k = 0; k < 10; k++) {
            Check.cabinet(most, Check.jar("water", k, 20, 99, 9, "999999") + ";need 9999 5 9");
        }
        Check.cabinet(most, "quota 90;peel 100;wasps 100");
        Check.cabinet(most, "");
        int[] all = {10, 10, 12, -1, 0, 90, 100, 100, 200, 90, 0, 0, 0, 0};
        for (int what = 0; what < 14; what++) {
            int w = what;
            CHECK.due("the most that can be: count " + w, all[w], () -> most.count(w));
        }
    }
}

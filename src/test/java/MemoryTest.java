/** Promises 37 to 41 and 44 to 49: labels, THE LOG, acts undone, THE IMAGE, counts. */
public final class MemoryTest {
    private static final Check CHECK = new Check("MemoryTest");
    private static final String FOUR = "jar vinegar at 0 spoons 20 sour 0 seal 1 views 123456;"
            + "jar honey at 1 spoons 20 sour 0 seal 2 views 123456;"
            + "jar water at 2 spoons 20 sour 0 seal 3 views 987654;"
            + "jar water at 3 spoons 20 sour 0 seal 4 views 000000";

    public static void main(String[] args) {
        labels();
        rings();
        logRows();
        askedMost();
        latestSixty();
        seeds();
        undoneEach();
        undoneAll();
        undoneLog();
        mostActs();
        images();
        imageOfLaw();
        counts();
        CHECK.end();
    }

    private static void labels() {
        JarCabinet x = Check.with(FOUR);
        CHECK.due("wrong", 0, () -> x.wrong(false));
        CHECK.due("nameless", 0, () -> x.wrong(true));
        x.label(0, 2);
        x.label(1, -1);
        x.label(3, 2);
        CHECK.due("wrong", 9, () -> x.wrong(false));
        CHECK.due("nameless", 2, () -> x.wrong(true));
        CHECK.due("whose, the least", 0, () -> x.whose(2));
        CHECK.due("whose, none", -1, () -> x.whose(0));
        CHECK.due("whose, none", -1, () -> x.whose(1));
        CHECK.index("no label 4", () -> x.whose(4));
        CHECK.index("no label -1", () -> x.whose(-1));
        x.label(0, 0);
        CHECK.due("whose", 2, () -> x.whose(2));
        CHECK.due("whose", 0, () -> x.whose(0));
    }

    private static void rings() {
        JarCabinet x = Check.with(FOUR);
        CHECK.due("its own", 1, () -> x.ring(0));
        x.label(0, 2);
        x.label(2, 3);
        CHECK.due("to one with its own", 13, () -> x.ring(0));
        CHECK.due("from the next", 12, () -> x.ring(2));
        x.label(3, 2);
        CHECK.due("round without the first", 13, () -> x.ring(0));
        x.label(3, 0);
        CHECK.due("round", 13, () -> x.ring(3));
        x.label(2, -1);
        CHECK.due("until one has none", 5, () -> x.ring(0));
        CHECK.due("has none", 4, () -> x.ring(2));
        CHECK.index("no jar", () -> x.ring(4));
        JarCabinet ten = new JarCabinet();
        for (int k = 0; k < 10; k++) {
            Check.cabinet(ten, "jar water at " + k + " spoons 1 sour 1 seal 1 views 000000");
        }
        for (int k = 0; k < 10; k++) {
            ten.label(k, (k + 7) % 10);
        }
        CHECK.due("all of ten", 1023, () -> ten.ring(3));
        CHECK.index("jar -1", () -> x.ring(-1));
    }

    private static void row(JarCabinet x, int ago, int... due) {
        for (int what = 0; what < 5; what++) {
            int w = what;
            CHECK.due("row " + ago + " " + w, due[w], () -> x.log(ago, w));
        }
    }

    private static void logRows() {
        JarCabinet x = Check.with(FOUR);
        row(x, 0, -99, -99, -99, -99, -99);
        x.ask(2, 1);
        x.years(3);
        x.mix(3, 0, 2);
        row(x, 0, 3, 3, 0, 2, 1);
        row(x, 1, 0, 2, -1, 1, 8);
        row(x, 2, -99, -99, -99, -99, -99);
        row(x, -1, -99, -99, -99, -99, -99);
        CHECK.element("what 5", () -> x.log(0, 5));
        CHECK.element("what -1", () -> x.log(0, -1));
        CHECK.element("what 5 without a row", () -> x.log(9, 5));
        CHECK.due("rows", 2, () -> x.count(12));
        CHECK.due("led", 3, () -> x.led(2));
        CHECK.due("led", 2, () -> x.led(1));
        CHECK.due("led, none", -1, () -> x.led(0));
        x.ask(1, 2);
        CHECK.due("led by the latest", 1, () -> x.led(2));
        CHECK.index("no matter 6", () -> x.led(6));
        CHECK.index("no matter -1", () -> x.led(-1));
    }

    private static void askedMost() {
        JarCabinet x = Check.with(FOUR);
        CHECK.due("none", -1, () -> x.asked(-1));
        CHECK.due("never", 0, () -> x.asked(0));
        x.ask(3, 0);
        CHECK.due("the one", 3, () -> x.asked(-1));
        x.mix(2, 1, 0);
        CHECK.due("of several the least", 1, () -> x.asked(-1));
        x.mix(1, 2, 0);
        x.ask(2, 0);
        CHECK.due("as the one or the other", 2, () -> x.asked(-1));
        int[] due = {0, 2, 3, 1};
        for (int jar = 0; jar < 4; jar++) {
            int j = jar;
            CHECK.due("asked " + j, due[j], () -> x.asked(j));
        }
        CHECK.index("no jar 4", () -> x.asked(4));
        CHECK.index("no jar -2", () -> x.asked(-2));
    }

    private static void latestSixty() {
        JarCabinet x = Check.with(FOUR);
        x.ask(3, 5);
        for (int n = 0; n < 59; n++) {
            x.ask(n / 20, n % 3);
        }
        CHECK.due("rows", 60, () -> x.count(12));
        CHECK.due("the first is there", 3, () -> x.led(5));
        x.ask(3, 0);
        CHECK.due("rows", 60, () -> x.count(12));
        CHECK.due("the first is not there any more", -1, () -> x.led(5));
        CHECK.due("asked by the log", 1, () -> x.asked(3));
        CHECK.due("the oldest row", 0, () -> x.log(59, 1));
        CHECK.due("no older one", -99, () -> x.log(60, 1));
        x.undo();
        CHECK.due("it is back", 3, () -> x.led(5));
        CHECK.due("rows", 60, () -> x.count(12));
        row(x, 59, 0, 3, -1, 5, 0);
        x.undo();
        CHECK.due("rows", 59, () -> x.count(12));
    }

    private static void seeds() {
        JarCabinet x = new JarCabinet();
        CHECK.due("1 at first", 1, () -> x.seed(-5));
        CHECK.due("what it was", -5, () -> x.seed(Integer.MIN_VALUE));
        x.years(1);
        int once = 1103515245 * Integer.MIN_VALUE + 12345;
        CHECK.due("two draws", 1103515245 * once + 12345, () -> x.seed(8));
        CHECK.due("no act", 1, () -> x.count(13));
        x.undo();
        CHECK.due("as ahead of the act", Integer.MIN_VALUE, () -> x.seed(3));
    }

    private static void undoneEach() {
        JarCabinet x = Check.with(FOUR, "sour 1;pop if sour>2 and jar<1");
        CHECK.due("none", false, x::undo);
        x.ask(0, 0);
        CHECK.due("ask undone", true, x::undo);
        CHECK.due("spoons", 80, () -> x.count(8));
        CHECK.due("open", 0, () -> x.count(11));
        CHECK.due("rows", 0, () -> x.count(12));
        x.mix(0, 1, 0);
        CHECK.due("mix undone", true, x::undo);
        CHECK.due("spoons", 80, () -> x.count(8));
        x.label(0, 3);
        CHECK.due("label undone", true, x::undo);
        CHECK.due("label", 0, () -> x.jar(0, 5));
        x.move(0, 3);
        CHECK.due("move undone", true, x::undo);
        CHECK.due("place", 0, () -> x.jar(0, 1));
        CHECK.due("place of the other", 3, () -> x.jar(3, 1));
        x.years(5);
        CHECK.due("an election", 1, () -> x.count(10));
        CHECK.due("years undone", true, x::undo);
        CHECK.due("year", 0, () -> x.count(4));
        CHECK.due("elections", 0, () -> x.count(10));
        CHECK.due("sour", 0, () -> x.jar(1, 3));
        CHECK.due("none any more", false, x::undo);
        x.ask(2, 0);
        x.close(2);
        x.close(2);
        CHECK.due("close of a closed one undone", true, x::undo);
        CHECK.due("closed", 0, () -> x.count(11));
        CHECK.due("close undone", true, x::undo);
        CHECK.due("open", 4, () -> x.count(11));
        CHECK.due("one is left", 1, () -> x.count(13));
    }

    private static void undoneAll() {
        JarCabinet x = Check.with(FOUR);
        x.ask(0, 0);
        x.image();
        x.label(1, 2);
        Check.feed(x, "quota 5");
        x.undo();
        CHECK.due("the tape stays", 2, x::cabinet);
        CHECK.due("quota", 5, () -> x.count(5));
        CHECK.due("a text: none are remembered", false, x::undo);
        CHECK.due("the act stays", 1, () -> x.count(11));
        CHECK.due("the image stays", true, x::back);
        CHECK.due("texts as in the image", 1, () -> x.count(2));
    }

    private static void undoneLog() {
        JarCabinet x = Check.with(FOUR);
        for (int n = 0; n < 72; n++) {
            x.ask(n % 4, n / 12);
        }
        CHECK.due("rows", 60, () -> x.count(12));
        CHECK.due("matter 0 is gone", -1, () -> x.led(0));
        for (int n = 0; n < 12; n++) {
            CHECK.due("undone", true, x::undo);
            CHECK.due("rows", 60, () -> x.count(12));
        }
        CHECK.due("the first row is back", 0, () -> x.log(59, 1));
        CHECK.due("the first row is back", 0, () -> x.log(59, 3));
        CHECK.due("matter 0 is back", 3, () -> x.led(0));
        CHECK.due("matter 5 is undone", -1, () -> x.led(5));
        CHECK.due("no more", false, x::undo);
        CHECK.due("asked", 15, () -> x.asked(0));
    }

    private static void mostActs() {
        JarCabinet x = new JarCabinet();
        for (int n = 1; n <= 14; n++) {
            x.years(1);
            int acts = Math.min(12, n);
            CHECK.due("acts", acts, () -> x.count(13));
        }
        for (int n = 11; n >= 0; n--) {
            CHECK.due("undone", true, x::undo);
            int acts = n;
            CHECK.due("acts", acts, () -> x.count(13));
            CHECK.due("year", acts + 2, () -> x.count(4));
        }
        CHECK.due("12 are remembered", false, x::undo);
        CHECK.due("year", 2, () -> x.count(4));
        x.years(3);
        CHECK.due("a new one", true, x::undo);
        CHECK.due("year", 2, () -> x.count(4));
    }

    private static void images() {
        JarCabinet x = Check.with(FOUR + ";quota 3;light 4 5;need 2 2 2;peel 1;wasps 2");
        CHECK.due("none was kept", false, x::back);
        x.ask(0, 0);
        CHECK.due("and nothing happens", 1, () -> x.count(13));
        x.seed(55);
        x.image();
        CHECK.due("keeping it leaves acts", 1, () -> x.count(13));
        x.ask(1, 1);
        x.move(0, 9);
        x.label(2, -1);
        x.years(9);
        Check.cabinet(x, "quota 9;light 4 0;need 20 1 1;peel 9;wasps 9;"
                + "jar water at 11 spoons 1 sour 1 seal 1 views 000000");
        Check.feed(x, "quota 0");
        CHECK.due("back", true, x::back);
        int[] due = {4, 1, 1, -1, 0, 3, 1, 2, 79, 10, 0, 1, 1, 0};
        for (int what = 0; what < due.length; what++) {
            int w = what;
            CHECK.due("count " + w, due[w], () -> x.count(w));
        }
        CHECK.due("place", 0, () -> x.jar(0, 1));
        CHECK.due("labels", 0, () -> x.wrong(true));
        CHECK.due("light", 5, () -> x.light(4));
        CHECK.due("log", 0, () -> x.log(0, 1));
        CHECK.due("seed", 55, () -> x.seed(56));
        CHECK.index("the later jar is none", () -> x.jar(4, 0));
        CHECK.argument("the tape stays", x::cabinet);
        CHECK.due("fault", 6, x::fault);
        CHECK.due("the image stays", true, x::back);
        CHECK.due("fault stays", 6, x::fault);
        CHECK.due("seed again", 55, () -> x.seed(1));
        CHECK.due("nothing to undo", false, x::undo);
        x.years(1);
        x.image();
        x.years(1);
        x.back();
        CHECK.due("the later image", 1, () -> x.count(4));
        CHECK.due("going back: none are remembered", 0, () -> x.count(13));
        CHECK.due("going back: none is undone", false, x::undo);
    }

    private static void imageOfLaw() {
        JarCabinet x = Check.with(FOUR);
        x.image();
        Check.law(x, "add 3 if water");
        x.back();
        CHECK.due("no law", -1, () -> x.count(3));
        CHECK.due("advice", 9, () -> x.advice(2, 0, true));
        Check.law(x, "less 3 if water;sour 4");
        x.image();
        Check.law(x, "pop");
        x.years(1);
        x.back();
        CHECK.due("lines", 2, () -> x.count(3));
        CHECK.due("advice by the kept law", 6, () -> x.advice(2, 0, true));
        CHECK.due("elections", 0, () -> x.count(10));
        x.years(1);
        CHECK.due("sour by the kept law", 4, () -> x.jar(3, 3));
    }

    private static void counts() {
        JarCabinet x = Check.with(FOUR + ";quota 7;peel 8;wasps 9;need 1 1 1;need 2 2 2", "sour 1;pop if jar<1");
        x.mix(1, 2, 0);
        x.years(2);
        x.close(1);
        x.move(1, 8);
        int[] due = {4, 2, 1, 2, 2, 7, 8, 9, 58, 10, 1, 4, 1, 4};
        for (int what = 0; what < due.length; what++) {
            int w = what;
            CHECK.due("count " + w, due[w], () -> x.count(w));
        }
        CHECK.due("another what", -1, () -> x.count(14));
        CHECK.due("another what", -1, () -> x.count(-1));
        CHECK.due("another what", -1, () -> x.count(Integer.MAX_VALUE));
    }
}

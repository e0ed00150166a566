import java.util.function.Consumer;

/** Which exception comes first, and that a call that throws, or a question, changes nothing. */
public final class RefusalTest {
    private static final Check CHECK = new Check("RefusalTest");

    interface On {
        Object call(JarCabinet x);
    }

    public static void main(String[] args) {
        firstTold();
        firstToldOfTexts();
        refusedCallsChangeNothing();
        refusedTextsChangeNothing();
        refusedTastesChangeNothing();
        thirteenthText();
        questionsChangeNothing();
        tastesChangeNothing();
        CHECK.end();
    }

    /**
     * Jar 0 has spoons, 1 and 2 have none; two acts can be undone, an image is kept, and a text is on
     * the TAPE.
     */
    private static JarCabinet full() {
        JarCabinet x = Check.with(Check.jar("vinegar", 3, 9, 4, 5, "123456") + ";"
                + Check.jar("honey", 4, 1, 40, 2, "929292") + ";" + Check.jar("water", 9, 0, 7, 1, "000000")
                + ";light 3 2;need 2 3 4;need 9 0 1;quota 6;peel 30;wasps 60",
                "add 1 if open;less 2 if spoons<1;sour 2 if jar<2;pop if sour>50");
        x.seed(-77);
        x.ask(0, 1);
        x.image();
        x.ask(1, 0);
        x.label(0, 2);
        return Check.feed(x, "quota 8;peel 9");
    }

    private static void first(String want, On on) {
        CHECK.due("the one told first", want, () -> on.call(full()));
    }

    private static void firstTold() {
        CHECK.says("Of several exceptions the one told first is thrown;");
        first(Check.INDEX, x -> x.jar(3, 10));
        first(Check.INDEX, x -> x.jar(-1, -1));
        first(Check.ELEMENT, x -> x.jar(2, 10));
        first(Check.INDEX, x -> x.need(2, 4));
        first(Check.INDEX, x -> x.need(-1, -1));
        first(Check.ELEMENT, x -> x.need(1, 4));
        first(Check.INDEX, x -> x.ask(1, 6));
        first(Check.INDEX, x -> x.ask(3, 0));
        first(Check.STATE, x -> x.ask(1, 5));
        first(Check.STATE, x -> x.ask(2, 0));
        first(Check.INDEX, x -> x.mix(3, 3, 0));
        first(Check.INDEX, x -> x.mix(0, 0, 6));
        first(Check.INDEX, x -> x.mix(1, 1, -1));
        first(Check.INDEX, x -> x.mix(1, 2, 6));
        first(Check.INDEX, x -> x.mix(1, 3, 0));
        first(Check.ARGUMENT, x -> x.mix(1, 1, 0));
        first(Check.ARGUMENT, x -> x.mix(0, 0, 0));
        first(Check.STATE, x -> x.mix(0, 1, 0));
        first(Check.STATE, x -> x.mix(1, 0, 0));
        first(Check.STATE, x -> x.mix(1, 2, 5));
        first(Check.INDEX, x -> x.mixture(3, 3, 0));
        first(Check.INDEX, x -> x.mixture(1, 1, 6));
        first(Check.ARGUMENT, x -> x.mixture(1, 1, 5));
        first(Check.INDEX, x -> x.war(3, 3, 0));
        first(Check.INDEX, x -> x.war(1, 1, 6));
        first(Check.ARGUMENT, x -> x.war(1, 1, 5));
        first(Check.INDEX, x -> x.best(6, 10));
        first(Check.ARGUMENT, x -> x.best(5, 10));
        first(Check.INDEX, x -> x.ahead(3, 41, 8));
        first(Check.INDEX, x -> x.ahead(3, 40, 8));
        first(Check.INDEX, x -> x.ahead(3, 41, 7));
        first(Check.ARGUMENT, x -> x.ahead(2, 41, 8));
        first(Check.ARGUMENT, x -> x.ahead(2, -1, -1));
        first(Check.ELEMENT, x -> x.ahead(2, 40, 8));
        first(Check.INDEX, x -> x.spoils(3, 0, 11));
        first(Check.INDEX, x -> x.spoils(2, 6, 11));
        first(Check.ARGUMENT, x -> x.spoils(2, 5, 11));
        first(Check.ELEMENT, x -> x.log(99, 5));
    }

    private static void firstToldOfTexts() {
        JarCabinet x = new JarCabinet();
        for (int n = 0; n < 12; n++) {
            Check.cabinet(x, "");
        }
        CHECK.argument("wrong, and there are 12", () -> Check.cabinet(x, "peel"));
        CHECK.unsupported("right, but there are 12", () -> Check.cabinet(x, "peel 1"));
    }

    /** Two objects made alike: on one the call is refused, and then all is as on the other one. */
    private static void same(String what, String want, On on, Consumer<JarCabinet> likewise) {
        JarCabinet x = full();
        JarCabinet y = full();
        CHECK.due(what, want, () -> on.call(x));
        likewise.accept(y);
        String due = State.allOf(y);
        CHECK.due("all behind " + what, due, () -> State.allOf(x));
    }

    private static void refused(String what, String want, On on) {
        same(what, want, on, y -> { });
    }

    private static void refusedCallsChangeNothing() {
        CHECK.says("a call that throws changes nothing but the TAPE, where it is used up.");
        refused("jar", Check.INDEX, x -> x.jar(3, 0));
        refused("jar's what", Check.ELEMENT, x -> x.jar(0, 10));
        refused("advice", Check.INDEX, x -> x.advice(0, 6, true));
        refused("light", Check.INDEX, x -> x.light(12));
        refused("need", Check.INDEX, x -> x.need(2, 0));
        refused("need's what", Check.ELEMENT, x -> x.need(0, 4));
        refused("ask of no jar", Check.INDEX, x -> x.ask(3, 0));
        refused("ask of no matter", Check.INDEX, x -> x.ask(0, 6));
        refused("ask without a spoon", Check.STATE, x -> x.ask(1, 0));
        refused("mix of no jar", Check.INDEX, x -> x.mix(0, 3, 0));
        refused("mix of no matter", Check.INDEX, x -> x.mix(0, 1, -1));
        refused("mix of one", Check.ARGUMENT, x -> x.mix(0, 0, 0));
        refused("mix, the other without a spoon", Check.STATE, x -> x.mix(0, 1, 0));
        refused("mix, the one without a spoon", Check.STATE, x -> x.mix(1, 0, 0));
        refused("close", Check.INDEX, x -> x.close(3));
        refused("label of no jar", Check.INDEX, x -> x.label(3, 0));
        refused("label of none", Check.INDEX, x -> x.label(0, 3));
        refused("move of no jar", Check.INDEX, x -> x.move(3, 0));
        refused("move to no place", Check.INDEX, x -> x.move(0, 12));
        refused("years 0", Check.ARGUMENT, x -> x.years(0));
        refused("years 51", Check.ARGUMENT, x -> x.years(51));
        refused("mixture", Check.ARGUMENT, x -> x.mixture(1, 1, 0));
        refused("best", Check.ARGUMENT, x -> x.best(0, 10));
        refused("cover", Check.ARGUMENT, x -> x.cover(10));
        refused("arranged", Check.INDEX, x -> x.arranged(3));
        refused("falls", Check.INDEX, x -> x.falls(12));
        refused("war", Check.ARGUMENT, x -> x.war(0, 0, 0));
        refused("ahead", Check.ARGUMENT, x -> x.ahead(0, 41, 0));
        refused("ahead's what", Check.ELEMENT, x -> x.ahead(0, 40, 8));
        refused("spoils", Check.ARGUMENT, x -> x.spoils(0, 0, 11));
        refused("ripe", Check.INDEX, x -> x.ripe(0, 6, true));
        refused("goes", Check.INDEX, x -> x.goes(3));
        refused("whose", Check.INDEX, x -> x.whose(3));
        refused("ring", Check.INDEX, x -> x.ring(3));
        refused("asked", Check.INDEX, x -> x.asked(3));
        refused("led", Check.INDEX, x -> x.led(6));
        refused("trial", Check.ARGUMENT, x -> x.trial(31, true));
        refused("span", Check.ARGUMENT, x -> x.span(31, true));
        refused("log", Check.ELEMENT, x -> x.log(0, 5));
        refused("feed behind 400", "-1", x -> feedTooMuch(x));
        refused("end", "false", x -> x.end(15));
        refused("end below 0", "false", x -> x.end(-1));
    }

    /** Fills the TAPE, is refused once, and cuts off what it brought. */
    private static int feedTooMuch(JarCabinet x) {
        int said = 0;
        for (int n = 0; n < 20; n++) {
            said = x.feed(-1, -1, -1, -1, -1);
        }
        x.end(14);
        return said;
    }

    /** A wrong text is read, so that its fault is told; all else but the TAPE is as before. */
    private static void wrongText(boolean cabinet, String text, int fault) {
        JarCabinet x = full();
        JarCabinet y = full();
        x.end(0);
        y.end(0);
        Check.feed(x, text);
        CHECK.argument("wrong: " + text, () -> cabinet ? x.cabinet() : x.law());
        CHECK.due("fault of " + text, fault, x::fault);
        // the same fault on the other one, by a text with nothing right ahead of it
        Check.feed(y, " ".repeat(fault) + "%");
        CHECK.argument("wrong at once", () -> y.law());
        String due = State.allOf(y);
        CHECK.due("all behind " + text, due, () -> State.allOf(x));
    }

    private static void refusedTextsChangeNothing() {
        CHECK.says("Of a wrong text nothing stays.");
        wrongText(true, "quota 9;light 3 9;need 3 3 3;peel 3;wasps 3;%", 44);
        wrongText(true, Check.jar("honey", 0, 1, 1, 1, "111111") + ";jar", 54);
        wrongText(true, Check.jar("honey", 0, 1, 1, 1, "11111"), 44);
        wrongText(true, "need 2 0 10", 9);
        wrongText(true, "light 3 10", 8);
        wrongText(true, "quota 91", 6);
        wrongText(true, "peel 101", 5);
        wrongText(true, "wasps 101", 6);
        wrongText(false, "add 9;pop;sour 9;%", 17);
        wrongText(false, "add 9 if open or (", 18);
        wrongText(false, "less 100", 5);
    }

    private static void refusedTastesChangeNothing() {
        for (byte[] bytes : new byte[][] {{0}, {6, 0}, {0, 10}, {0, 0, 0}, {-1, 0}, new byte[42]}) {
            same("tastes", Check.ARGUMENT, x -> tasted(x, bytes, true), y -> y.end(0));
            same("next", Check.ARGUMENT, x -> tasted(x, bytes, false), y -> y.end(0));
        }
    }

    private static int tasted(JarCabinet x, byte[] bytes, boolean tastes) {
        x.end(0);
        Check.feed(x, bytes);
        return tastes ? x.tastes(true) : x.next();
    }

    private static void thirteenthText() {
        CHECK.says("UnsupportedOperationException: there are 12.");
        JarCabinet x = new JarCabinet();
        JarCabinet y = new JarCabinet();
        for (JarCabinet z : new JarCabinet[] {x, y}) {
            for (int n = 0; n < 12; n++) {
                Check.cabinet(z, n > 0 ? "" : Check.jar("honey", 0, 4, 4, 4, "444444") + ";need 4 4 4;light 4 4");
            }
            z.ask(0, 0);
            z.image();
            z.years(2);
        }
        CHECK.unsupported("a 13th", () -> Check.cabinet(x, Check.jar("water", 1, 4, 4, 4, "444444")
                + ";need 4 4 4;light 4 5;quota 44;peel 44;wasps 44"));
        String due = State.allOf(y);
        CHECK.due("all behind a 13th", due, () -> State.allOf(x));
    }

    private static void question(String what, On on) {
        JarCabinet x = full();
        JarCabinet y = full();
        String said = Check.said(() -> on.call(x));
        CHECK.due(what + " throws", false, () -> said.startsWith("throws."));
        CHECK.due(what + " again", said, () -> on.call(x));
        String due = State.allOf(y);
        CHECK.due("all behind " + what, due, () -> State.allOf(x));
    }

    private static void questionsChangeNothing() {
        CHECK.says("(draws, too; nothing stays)");
        for (int what = 0; what < 10; what++) {
            int w = what;
            question("jar " + w, x -> x.jar(0, w));
        }
        question("advice", x -> x.advice(0, 5, true));
        question("light", x -> x.light(3));
        question("need's answers", x -> x.need(1, 3));
        question("mixture", x -> x.mixture(0, 1, 2));
        question("best", x -> x.best(0, 9));
        question("coalition", x -> x.coalition());
        question("agree", x -> x.agree(-1));
        question("cover", x -> x.cover(4));
        question("plan", x -> x.plan());
        question("unmet", x -> x.unmet());
        question("harm", x -> x.harm());
        question("least harm", x -> x.arranged(-1));
        question("arranged", x -> x.arranged(2));
        question("falls", x -> x.falls(3));
        question("worst", x -> x.falls(-1));
        question("wins", x -> x.wins(3));
        question("smallest", x -> x.smallest(false));
        question("deal", x -> x.smallest(true));
        question("dummies", x -> x.dummies());
        question("war", x -> x.war(0, 1, 0));
        question("ahead", x -> x.ahead(1, 40, 0));
        question("ahead's advice", x -> x.ahead(1, 40, 7));
        question("spoils", x -> x.spoils(0, 0, 1));
        question("ripe", x -> x.ripe(0, 0, true));
        question("goes", x -> x.goes(0));
        question("wrong", x -> x.wrong(false));
        question("nameless", x -> x.wrong(true));
        question("whose", x -> x.whose(2));
        question("ring", x -> x.ring(0));
        question("asked", x -> x.asked(0));
        question("asked most", x -> x.asked(-1));
        question("led", x -> x.led(1));
        question("trial", x -> x.trial(30, false));
        question("trial's elections", x -> x.trial(30, true));
        question("span", x -> x.span(30, false));
        question("span's most", x -> x.span(30, true));
        question("log", x -> x.log(0, 4));
        question("fault", x -> x.fault());
        for (int what = 0; what < 14; what++) {
            int w = what;
            question("count " + w, x -> x.count(w));
        }
        question("count 14", x -> x.count(14));
    }

    private static void tastesChangeNothing() {
        CHECK.says("Uses the TAPE up: TASTES");
        CHECK.says("Uses the TAPE up: NEXT; NONE (the TAPE likewise).");
        for (byte[] bytes : new byte[][] {{}, {0, 1}, {5, 9, 5, 9}, new byte[40]}) {
            for (boolean tastes : new boolean[] {true, false}) {
                JarCabinet x = full();
                JarCabinet y = full();
                tasted(x, bytes, tastes);
                y.end(0);
                String due = State.allOf(y);
                CHECK.due("all behind tastes", due, () -> State.allOf(x));
            }
        }
    }
}

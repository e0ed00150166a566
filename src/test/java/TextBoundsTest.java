import java.util.Arrays;

/** The bounds of the TAPE and of texts of THE CABINET, on both sides: promises 1 to 4 and 6. */
public final class TextBoundsTest {
    private static final Check CHECK = new Check("TextBoundsTest");
    private static final String HONEY = "jar honey at 3 spoons 4 sour 5 seal 6 views 123456";

    interface Had {
        int by(JarCabinet x);
    }

    public static void main(String[] args) {
        tapeOfFourHundred();
        refusedFeedLeavesBytes();
        endOfTape();
        tapeIsUsedUp();
        numbersOfJars();
        numbersOfOtherLines();
        yearOfNeeds();
        yearsBeyondAllNeeds();
        figures();
        placesOfOneAlone();
        mostLines();
        mostJars();
        mostNeeds();
        mostTexts();
        noLine();
        moreMustCome();
        wrongThings();
        missingAndDoubled();
        everyByteAlone();
        everyByteBetween();
        everyByteBehind();
        words();
        firstOfSeveral();
        nothingStays();
        CHECK.end();
    }

    /** A text is right, or its first wrong byte is told; of a wrong one nothing stays. */
    private static void fault(JarCabinet x, String text, int want) {
        int texts = x.count(2);
        Object due = want == -1 ? texts + 1 : Check.ARGUMENT;
        CHECK.due("cabinet of [" + text + "]", due, () -> Check.cabinet(x, text));
        CHECK.due("fault of [" + text + "]", want, x::fault);
        CHECK.due("texts behind [" + text + "]", want == -1 ? texts + 1 : texts, () -> x.count(2));
    }

    private static void fault(String text, int want) {
        fault(new JarCabinet(), text, want);
    }

    private static JarCabinet fed(int bytes) {
        JarCabinet x = new JarCabinet();
        for (int n = 0; n < bytes; n += 20) {
            x.feed(0x20202020, 0x20202020, 0x20202020, 0x20202020, 0x20202020);
        }
        x.end(bytes);
        return x;
    }

    private static void tapeOfFourHundred() {
        CHECK.says("Twenty bytes come behind the TAPE, of each number the highest first: how many it has; "
                + "NONE, and none come, if it would have more than 400.");
        JarCabinet x = new JarCabinet();
        for (int n = 20; n <= 400; n += 20) {
            CHECK.due("feed to " + n, n, () -> x.feed(1, 2, 3, 4, 5));
        }
        CHECK.due("feed to 420", -1, () -> x.feed(1, 2, 3, 4, 5));
        CHECK.due("feed to 420 again", -1, () -> x.feed(1, 2, 3, 4, 5));
        CHECK.due("it has 400", true, () -> x.end(400));
        for (int n = 376; n < 386; n++) {
            int had = n;
            int due = n <= 380 ? n + 20 : -1;
            CHECK.due("feed behind " + n, due, () -> fed(had).feed(0, 0, 0, 0, 0));
        }
        CHECK.due("feed behind 1", 21, () -> fed(1).feed(0, 0, 0, 0, 0));
    }

    private static void refusedFeedLeavesBytes() {
        JarCabinet x = fed(374);
        x.feed(0x71756f74, 0x61203739, 0x20202020, 0x20202020, 0x20202020);
        CHECK.due("no room", false, () -> x.end(395));
        x.end(382);
        CHECK.due("374 blanks and a line", -1, () -> x.feed(-1, -1, -1, -1, -1));
        CHECK.due("as it was", false, () -> x.end(383));
        CHECK.due("none came", 1, x::cabinet);
        CHECK.due("quota", 79, () -> x.count(5));
        JarCabinet y = fed(380);
        y.feed(0x71756f74, 0x61203739, 0x3b706565, 0x6c203835, 0x20202020);
        CHECK.due("380 blanks and two lines", 1, y::cabinet);
        CHECK.due("quota", 79, () -> y.count(5));
        CHECK.due("the last bytes", 85, () -> y.count(6));
    }

    private static void endOfTape() {
        CHECK.says("The TAPE has its first n bytes alone: true; false, and nothing happens, if it has fewer, "
                + "or n is below 0.");
        for (int size : new int[] {0, 1, 19, 20, 21, 400}) {
            CHECK.due("end at its size", true, () -> fed(size).end(size));
            CHECK.due("end one behind", false, () -> fed(size).end(size + 1));
            CHECK.due("end at 0", true, () -> fed(size).end(0));
            CHECK.due("end at -1", false, () -> fed(size).end(-1));
            CHECK.due("end at the least int", false, () -> fed(size).end(Integer.MIN_VALUE));
            CHECK.due("end at the greatest int", false, () -> fed(size).end(Integer.MAX_VALUE));
        }
        JarCabinet x = Check.feed(new JarCabinet(), "quota 45");
        x.end(9);
        x.end(-1);
        CHECK.due("nothing happened", 28, () -> x.feed(0x20202020, 0, 0, 0, 0));
        x.end(8);
        CHECK.due("its first 8 alone", 1, x::cabinet);
        CHECK.due("quota", 45, () -> x.count(5));
        JarCabinet y = Check.feed(new JarCabinet(), "quota 45");
        y.end(7);
        CHECK.due("its first 7 alone", 1, y::cabinet);
        CHECK.due("quota", 4, () -> y.count(5));
    }

    private static void tapeIsUsedUp() {
        CHECK.says("Uses the TAPE up: a text of THE CABINET: how many there are.");
        CHECK.says("a call that throws changes nothing but the TAPE, where it is used up.");
        JarCabinet x = new JarCabinet();
        for (String text : new String[] {"quota 1", "quota 0"}) {
            CHECK.due("cabinet", text.equals("quota 1") ? 1 : Check.ARGUMENT, () -> Check.cabinet(x, text));
            CHECK.due("used up by cabinet", 20, () -> x.feed(0, 0, 0, 0, 0));
            x.end(0);
        }
        for (String text : new String[] {"pop", "pop 0"}) {
            CHECK.due("law", text.equals("pop") ? 1 : Check.ARGUMENT, () -> Check.law(x, text));
            CHECK.due("used up by law", 20, () -> x.feed(0, 0, 0, 0, 0));
            x.end(0);
        }
        for (byte[] bytes : new byte[][] {{5, 9}, {6, 9}}) {
            CHECK.due("tastes", bytes[0] == 5 ? 0 : Check.ARGUMENT, () -> Check.feed(x, bytes).tastes(false));
            CHECK.due("used up by tastes", 20, () -> x.feed(0, 0, 0, 0, 0));
            x.end(0);
            CHECK.due("next", bytes[0] == 5 ? -1 : Check.ARGUMENT, () -> Check.feed(x, bytes).next());
            CHECK.due("used up by next", 20, () -> x.feed(0, 0, 0, 0, 0));
            x.end(0);
        }
    }

    /** A number of a line: right from least to most, by one to four digits; wrong at its begin else. */
    private static void number(String ahead, String behind, int least, int most, Had had) {
        for (int n : new int[] {least, least + 1, most - 1, most}) {
            for (String digits : new String[] {"" + n, String.format("%04d", n)}) {
                JarCabinet x = new JarCabinet();
                fault(x, ahead + digits + behind, -1);
                CHECK.due("what " + ahead + digits + " tells", n, () -> had.by(x));
            }
            fault(ahead + String.format("%05d", n) + behind, ahead.length());
        }
        fault(ahead + (most + 1) + behind, ahead.length());
        if (least > 0) {
            fault(ahead + (least - 1) + behind, ahead.length());
        }
        fault(ahead + "-1" + behind, ahead.length());
        fault(ahead + "9999999999" + behind, ahead.length());
        // numbers that go round to the least one as an int and as a long
        fault(ahead + (4294967296L + least) + behind, ahead.length());
        fault(ahead + "1844674407370955161" + (6 + least) + behind, ahead.length());
    }

    private static void numbersOfJars() {
        CHECK.says("Numbers are of 1 to 4 digits.");
        CHECK.says("a PLACE 0 to 11, one's own alone; SPOONS 0 to 20; SOUR 0 to 99; SEAL 0 to 9;");
        number("jar water at ", " spoons 1 sour 1 seal 1 views 000000", 0, 11, x -> x.jar(0, 1));
        number("jar water at 1 spoons ", " sour 1 seal 1 views 000000", 0, 20, x -> x.jar(0, 2));
        number("jar water at 1 spoons 1 sour ", " seal 1 views 000000", 0, 99, x -> x.jar(0, 3));
        number("jar water at 1 spoons 1 sour 1 seal ", " views 000000", 0, 9, x -> x.jar(0, 4));
    }

    private static void numbersOfOtherLines() {
        CHECK.says("LIGHT of each PLACE 0 to 9 (0 at first).");
        number("light 4 ", "", 0, 9, x -> x.light(4));
        number("light ", " 3", 0, 11, x -> placeWithLight(x));
        for (int place = 0; place < 12; place++) {
            JarCabinet x = new JarCabinet();
            fault(x, "light " + place + " 7", -1);
            for (int p = 0; p < 12; p++) {
                int q = p;
                CHECK.due("light of " + p, p == place ? 7 : 0, () -> x.light(q));
            }
        }
        CHECK.says("a YEAR, a MATTER, LOW 1 to 9.");
        number("need 7 ", " 3", 0, 5, x -> x.need(0, 1));
        number("need 7 2 ", "", 1, 9, x -> x.need(0, 2));
        CHECK.says("QUOTA 1 to 90 (1 at first).");
        number("quota ", "", 1, 90, x -> x.count(5));
        CHECK.says("PEEL, WASPS 0 to 100 (0 at first).");
        number("peel ", "", 0, 100, x -> x.count(6));
        number("wasps ", "", 0, 100, x -> x.count(7));
    }

    private static int placeWithLight(JarCabinet x) {
        for (int place = 0; place < 12; place++) {
            if (x.light(place) > 0) {
                return place;
            }
        }
        return -1;
    }

    private static void yearOfNeeds() {
        CHECK.says("need: YEAR, as it is now to 9999, MATTER, LOW.");
        number("need ", " 3 4", 0, 9999, x -> x.need(0, 0));
        for (int year : new int[] {1, 7, 50}) {
            JarCabinet x = new JarCabinet();
            x.years(year);
            fault(x, "need " + (year - 1) + " 3 4", 5);
            fault(x, "need " + year + " 3 4", -1);
            fault(x, "need " + (year + 1) + " 3 4;need " + (year - 1) + " 3 4",
                    10 + ("" + (year + 1)).length() + 5);
            CHECK.due("of the wrong text none stays", 1, () -> x.count(1));
            x.undo();
            CHECK.due("a text: the years stay", year, () -> x.count(4));
            fault(x, "need 9999 3 4", -1);
            fault(x, "need 10000 3 4", 5);
        }
        JarCabinet y = new JarCabinet();
        y.years(5);
        y.undo();
        fault(y, "need 0 0 1", -1);
    }

    private static void yearsBeyondAllNeeds() {
        JarCabinet x = new JarCabinet();
        for (int n = 0; n < 199; n++) {
            x.years(50);
        }
        x.years(49);
        fault(x, "need 9998 0 1", 5);
        fault(x, "need 9999 0 1", -1);
        x.years(1);
        CHECK.due("year", 10000, () -> x.count(4));
        fault(x, "need 9999 0 1", 5);
        fault(x, "need 10000 0 1", 5);
        fault(x, "quota 9", -1);
        CHECK.due("one need", 1, () -> x.count(1));
    }

    private static void figures() {
        CHECK.says("F: just 6 figures, the VIEWS;");
        String ahead = "jar honey at 3 spoons 4 sour 5 seal 6 views ";
        for (int n = 1; n <= 12; n++) {
            fault(ahead + "9".repeat(n), n == 6 ? -1 : ahead.length());
            fault(ahead + "0".repeat(n) + ";peel 1", n == 6 ? -1 : ahead.length());
        }
        fault(ahead, ahead.length());
        fault(ahead + "12 3456", ahead.length());
        fault(ahead + "12345 6", ahead.length());
        fault(ahead + "123456 7", ahead.length() + 7);
        fault(ahead + "1234567890123456", ahead.length());
        fault(ahead.trim() + "123456", -1);
        CHECK.says("a VIEW 0 to 9 of each MATTER.");
        JarCabinet x = Check.with(ahead + "098765;" + ahead.replace("at 3", "at 4") + "432109");
        for (int matter = 0; matter < 6; matter++) {
            int m = matter;
            CHECK.due("view", "098765".charAt(m) - '0', () -> x.advice(0, m, false));
            CHECK.due("view", "432109".charAt(m) - '0', () -> x.advice(1, m, false));
        }
    }

    private static void placesOfOneAlone() {
        CHECK.says("at: a PLACE that no JAR has;");
        for (int place : new int[] {0, 5, 11}) {
            String line = Check.jar("water", place, 1, 1, 1, "000000");
            JarCabinet x = new JarCabinet();
            fault(x, line, -1);
            fault(x, line, 13);
            fault(x, line.replace("at " + place, "at " + String.format("%04d", place)), 13);
            x.move(0, place == 0 ? 1 : place - 1);
            fault(x, line, -1);
            fault(x, line, 13);
            CHECK.due("jars", 2, () -> x.count(0));
            fault(line + ";" + line, line.length() + 14);
        }
        JarCabinet y = Check.with(Check.jar("water", 5, 1, 1, 1, "000000"));
        y.move(0, 6);
        y.undo();
        fault(y, Check.jar("water", 5, 1, 1, 1, "000000"), 13);
        fault(y, Check.jar("water", 6, 1, 1, 1, "000000"), -1);
    }

    private static void mostLines() {
        CHECK.says("LINE { ; LINE }, at most 14: jar LIQUID");
        String thirteen = "peel 1;".repeat(13);
        fault(thirteen + "peel 2", -1);
        fault(thirteen + "peel 2;", 98);
        fault(thirteen + "peel 2;  ", 100);
        fault(thirteen + "peel 2;  peel 3", 100);
        fault(thirteen + "peel 2;quota", 98);
        fault(thirteen + "peel 2;;", 98);
        fault(thirteen + "peel 2;%", 98);
        fault(thirteen + "peel", 95);
        fault(thirteen + "peel 101;peel 1", 96);
        JarCabinet x = new JarCabinet();
        CHECK.due("14 of 14", 1, () -> Check.cabinet(x, thirteen + "wasps 77"));
        CHECK.due("the last one counts", 77, () -> x.count(7));
        CHECK.due("14 again", 2, () -> Check.cabinet(x, thirteen + "wasps 78"));
    }

    private static void mostJars() {
        CHECK.says("JARS (at most 10, numbered from 0 on):");
        for (int had : new int[] {8, 9, 10}) {
            JarCabinet x = Check.withJars(had);
            String first = Check.jar("water", 10, 0, 0, 0, "000000");
            String second = Check.jar("water", 11, 0, 0, 0, "000000");
            int due = had == 8 ? -1 : had == 9 ? first.length() + 2 : 1;
            fault(x, " " + first + ";" + second, due);
            CHECK.due("jars", had == 8 ? 10 : had, () -> x.count(0));
        }
        JarCabinet ten = Check.withJars(10);
        fault(ten, "peel 1; jar", 8);
        fault(ten, "jar wine at 99", 0);
        fault(ten, "light 11 3", -1);
        for (int k = 0; k < 10; k++) {
            int j = k;
            CHECK.due("numbered", k, () -> ten.jar(j, 1));
        }
        CHECK.index("no 11th", () -> ten.jar(10, 0));
    }

    private static void mostNeeds() {
        CHECK.says("NEEDS (at most 10):");
        JarCabinet x = new JarCabinet();
        fault(x, "need 1 2 3;".repeat(9) + "need 4 5 6", -1);
        CHECK.due("needs", 10, () -> x.count(1));
        CHECK.due("the tenth", 4, () -> x.need(9, 0));
        fault(x, "peel 1;  need 1 2 3", 9);
        fault(x, "need", 0);
        fault(x, "need zz", 0);
        fault("need 1 2 3;".repeat(10) + "need 1 2 3", 110);
        fault("need 1 2 3;".repeat(10) + "peel 1;need 1 2 3", 117);
        JarCabinet y = Check.with("need 1 2 3;".repeat(8) + "need 1 2 3");
        fault(y, "need 1 2 3;need 1 2 3", 11);
        fault(y, "need 1 2 3", -1);
        fault(y, "need 1 2 3", 0);
    }

    private static void mostTexts() {
        CHECK.says("THE CABINET is told in texts (at most 12, one behind another)");
        CHECK.says("IllegalArgumentException: it is wrong; UnsupportedOperationException: there are 12.");
        JarCabinet x = new JarCabinet();
        for (int n = 1; n <= 12; n++) {
            CHECK.argument("a wrong one does not count", () -> Check.cabinet(x, "peel"));
            String text = n % 3 == 0 ? "" : n % 3 == 1 ? "   " : "peel " + n;
            CHECK.due("text " + n, n, () -> Check.cabinet(x, text));
        }
        CHECK.due("texts", 12, () -> x.count(2));
        CHECK.unsupported("a 13th", () -> Check.cabinet(x, "peel 99"));
        CHECK.due("nothing is told", 11, () -> x.count(6));
        CHECK.unsupported("an empty 13th", () -> x.cabinet());
        CHECK.argument("a wrong 13th", () -> Check.cabinet(x, "peel 101"));
        CHECK.due("its fault", 5, x::fault);
        CHECK.due("texts", 12, () -> x.count(2));
        CHECK.due("the law has no such bound", 1, () -> Check.law(x, "pop"));
        JarCabinet y = new JarCabinet();
        for (int n = 1; n <= 11; n++) {
            Check.cabinet(y, "");
        }
        y.image();
        CHECK.due("the 12th", 12, () -> Check.cabinet(y, ""));
        CHECK.unsupported("the 13th", () -> Check.cabinet(y, ""));
        y.back();
        CHECK.due("the 12th once more", 12, () -> Check.cabinet(y, ""));
        CHECK.unsupported("the 13th once more", () -> Check.cabinet(y, ""));
    }

    private static void noLine() {
        CHECK.says("A text that is empty, or blanks alone, has no LINE.");
        for (int blanks : new int[] {0, 1, 20, 399, 400}) {
            fault(" ".repeat(blanks), -1);
            CHECK.due("law of blanks", 0, () -> Check.law(new JarCabinet(), " ".repeat(blanks)));
        }
        fault(" ".repeat(399) + ";", 399);
        fault(" ".repeat(393) + "quota 9", -1);
        fault(" ".repeat(394) + "quota ", 400);
    }

    private static final String[] LINES = {
        "jar vinegar at 3 spoons 4 sour 5 seal 6 views 123456", "light 3 4", "need 3 4 5", "quota 6",
        "peel 7", "wasps 8", "peel 7 ; jar water at 3 spoons 4 sour 5 seal 6 views 123456",
        "wasps 8 ; need 3 4 5", "light 3 4 ; quota 6 ; light 3 5",
    };

    private static String joined(String[] things, int n) {
        return String.join(" ", Arrays.copyOf(things, n));
    }

    private static void moreMustCome() {
        CHECK.says("or the text's length, if more must come.");
        for (String line : LINES) {
            String[] things = line.split(" ");
            for (int n = 1; n < things.length; n++) {
                String text = joined(things, n);
                boolean whole = things[n].equals(";");
                fault(text, whole ? -1 : text.length());
                fault(text + "   ", whole ? -1 : text.length() + 3);
                fault("  " + text, whole ? -1 : text.length() + 2);
            }
            fault(line, -1);
            fault(line + "  ", -1);
            fault(line + ";", line.length() + 1);
        }
    }

    /** Nothing of these can stand anywhere, so that the fault is where they begin. */
    private static void wrongThings() {
        CHECK.says("The first wrong byte: the begin of the first thing that cannot stand there");
        String[] wrong = {"%", "zz", "10000", "12345", "if", "ja", "jars", "Jar", "-1", "\u00ff", "\0", "{", "`"};
        for (String line : LINES) {
            String[] things = line.split(" ");
            for (int n = 0; n < things.length; n++) {
                for (String w : wrong) {
                    String[] other = things.clone();
                    other[n] = w;
                    int at = n == 0 ? 0 : joined(things, n).length() + 1;
                    fault(String.join(" ", other), at);
                }
            }
            for (String w : wrong) {
                fault(line + " " + w, line.length() + 1);
            }
            otherLetters(line);
        }
    }

    private static boolean isNumber(String thing) {
        return isFigure(thing.charAt(0));
    }

    /** A line with one thing taken out, or told twice: of numbers in a row the last is too few or too many. */
    private static void missingAndDoubled() {
        for (String line : LINES) {
            String[] things = line.split(" ");
            for (int n = 0; n < things.length; n++) {
                int last = n;
                while (isNumber(things[n]) && last + 1 < things.length && isNumber(things[last + 1])) {
                    last++;
                }
                String ahead = n == 0 ? "" : joined(things, n) + " ";
                String behind = String.join(" ", Arrays.copyOfRange(things, n + 1, things.length));
                String between = String.join(" ", Arrays.copyOfRange(things, n + 1, last + 1));
                int missing = (ahead + (between.isEmpty() ? "" : between + " ")).length();
                String without = (ahead + behind).trim();
                fault(without, without.isEmpty() ? -1 : Math.min(missing, without.length()));
                String twice = ahead + things[n] + " " + things[n] + " " + behind;
                fault(twice, (ahead + things[n] + " " + (between.isEmpty() ? "" : between + " ")).length());
            }
        }
    }

    /** A word with another letter at its begin, or at its end, is none. */
    private static void otherLetters(String line) {
        for (int at = 0; at < line.length(); at++) {
            boolean word = isLetter(line.charAt(at));
            boolean first = at == 0 || !isLetter(line.charAt(at - 1));
            boolean last = at + 1 == line.length() || !isLetter(line.charAt(at + 1));
            if (word && (first || last)) {
                int begin = line.lastIndexOf(' ', at) + 1;
                for (char other : new char[] {'x', 'z', (char) (line.charAt(at) - 1)}) {
                    fault(line.substring(0, at) + other + line.substring(at + 1), begin);
                }
            }
        }
    }

    private static void everyByteAlone() {
        CHECK.says("between all there may be blanks (32), also ahead and behind.");
        for (int b = 0; b < 256; b++) {
            fault("" + (char) b, b == 32 ? -1 : 0);
            fault("  " + (char) b, b == 32 ? -1 : 2);
        }
    }

    private static boolean isFigure(int b) {
        return b >= '0' && b <= '9';
    }

    private static boolean isLetter(int b) {
        return b >= 'a' && b <= 'z';
    }

    private static void everyByteBetween() {
        CHECK.says("Words are as long as a to z go on;");
        for (int b = 0; b < 256; b++) {
            boolean right = b == 32 || isFigure(b) && b < '9';
            fault("quota" + (char) b + "7", right ? -1 : isLetter(b) ? 0 : 5);
            fault("peel 1" + (char) b + "wasps 2", b == ';' ? -1 : isFigure(b) || b == 32 ? 7 : 6);
            fault("light 1" + (char) b + "2", b == 32 ? -1 : isFigure(b) ? 6 : 7);
        }
        fault("light 02", 8);
        fault("light 11", 8);
    }

    private static void everyByteBehind() {
        for (int b = 0; b < 256; b++) {
            fault("quota 7" + (char) b, b == 32 || isFigure(b) ? -1 : b == ';' ? 8 : 7);
            fault(HONEY + (char) b, b == 32 ? -1 : isFigure(b) ? 44 : b == ';' ? 51 : 50);
        }
    }

    private static void words() {
        CHECK.says("LIQUID: vinegar, honey, water;");
        String[] liquids = {"vinegar", "honey", "water"};
        for (int k = 0; k < 3; k++) {
            String line = Check.jar(liquids[k], 3, 4, 5, 6, "123456");
            int due = k;
            CHECK.due("liquid", due, () -> Check.with(line).jar(0, 0));
            fault(line.replace(liquids[k], liquids[k] + "s"), 4);
            fault(line.replace(liquids[k], liquids[k].substring(1)), 4);
            fault(line.replace(liquids[k], liquids[k].substring(0, 4)), 4);
            fault(line.replace(liquids[k] + " ", liquids[k]), 4);
        }
        fault("jarhoney at 3", 0);
        fault("jar honey at3spoons4sour5seal6views123456;light3 4;need3 4 5;quota6;peel7;wasps8", -1);
        fault("quotapeel 1", 0);
    }

    private static void firstOfSeveral() {
        fault("peel 101;quota 91", 5);
        fault("peel 1;quota 91;quota 92", 13);
        fault("jar honey at 12 spoons 21", 13);
        fault("zz;peel 101", 0);
        fault("light 12 10", 6);
        fault("need 10000 6 0", 5);
        fault("need 9999 6 0", 10);
    }

    private static void nothingStays() {
        CHECK.says("Of a wrong text nothing stays.");
        JarCabinet x = Check.with(HONEY + ";light 2 3;need 4 5 6;quota 7;peel 8;wasps 9");
        x.ask(0, 0);
        String before = State.of(x);
        for (String line : new String[] {Check.jar("water", 9, 1, 1, 1, "000000"), "light 2 9", "need 9 1 1",
            "quota 70", "peel 80", "wasps 90"}) {
            CHECK.argument("wrong behind " + line, () -> Check.cabinet(x, line + ";"));
            CHECK.due("behind " + line, before, () -> State.of(x));
        }
    }
}

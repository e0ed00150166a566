import java.util.Arrays;

/** The bounds of texts of THE LAW and of what it makes a jar advise: promises 5, 6 and 8. */
public final class LawBoundsTest {
    private static final Check CHECK = new Check("LawBoundsTest");

    public static void main(String[] args) {
        amounts();
        numbersInSums();
        mostLines();
        sixDeep();
        sixDeepAgain();
        moreMustCome();
        wrongThings();
        everyByte();
        fullTape();
        inPlaceOfTheOneBefore();
        faults();
        adviceIsCut();
        belowAndAbove();
        partsOfSums();
        matterAndViewAreNought();
        liquids();
        bindings();
        withoutText();
        CHECK.end();
    }

    private static void fault(JarCabinet x, String text, int want) {
        int lines = x.count(3);
        int told = text.isBlank() ? 0 : text.split(";").length;
        Object due = want == -1 ? told : Check.ARGUMENT;
        CHECK.due("law of [" + text + "]", due, () -> Check.law(x, text));
        CHECK.due("fault of [" + text + "]", want, x::fault);
        CHECK.due("lines behind [" + text + "]", want == -1 ? told : lines, () -> x.count(3));
    }

    private static void fault(String text, int want) {
        fault(new JarCabinet(), text, want);
    }

    private static void amounts() {
        CHECK.says("All numbers are of 1 to 3 digits (N 0 to 99).");
        for (String kind : new String[] {"add ", "less ", "sour "}) {
            int at = kind.length();
            for (String right : new String[] {"0", "00", "000", "1", "001", "98", "99", "099"}) {
                fault(kind + right, -1);
                fault(kind + right + " if open", -1);
            }
            for (String wrong : new String[] {"100", "999", "0000", "0001", "0099", "1000", "4294967296",
                "18446744073709551617", "-1", "+1"}) {
                fault(kind + wrong, at);
                fault(kind + wrong + " if open", at);
            }
            fault(kind, at);
            fault(kind + "if open", at);
        }
        fault("pop 0", 4);
        fault("pop", -1);
    }

    private static void numbersInSums() {
        for (String right : new String[] {"0", "000", "9", "99", "100", "999", "099"}) {
            fault("pop if " + right + "<jar", -1);
            fault("pop if jar>" + right, -1);
            fault("pop if jar+" + right + ">1", -1);
        }
        for (String wrong : new String[] {"1000", "0000", "0999", "9999", "4294967295", "18446744073709551616"}) {
            fault("pop if " + wrong + "<jar", 7);
            fault("pop if jar>" + wrong, 11);
            fault("pop if jar+" + wrong + ">1", 11);
        }
    }

    private static void mostLines() {
        CHECK.says("THE LAW (a text, in place of the one before): LINE { ; LINE }, at most 12: add N [ if C ]");
        String eleven = "pop;".repeat(11);
        fault(eleven + "pop", -1);
        fault(eleven + "pop;", 48);
        fault(eleven + "pop; ", 49);
        fault(eleven + "pop;pop", 48);
        fault(eleven + "pop;  add 1", 50);
        fault(eleven + "pop;%", 48);
        fault(eleven + "pop;;", 48);
        fault(eleven + "add 100;pop", 48);
        fault(eleven + "add", 47);
        JarCabinet x = Check.withJars(1);
        Check.law(x, "add 1;".repeat(8) + "less 1;less 1;less 1;add 2 if matter<1");
        CHECK.due("the twelfth holds", 7, () -> x.advice(0, 0, true));
        CHECK.due("all others", 6, () -> x.advice(0, 1, true));
    }

    /** Every way to go six deep by ( and not is right; a 7th of either kind is wrong where it begins. */
    private static void sixDeep() {
        CHECK.says("( and not within one another at most 6 deep.");
        CHECK.says("the ( or not that is a 7th one deep;");
        for (int way = 0; way < 64; way++) {
            StringBuilder ahead = new StringBuilder("pop if ");
            StringBuilder behind = new StringBuilder();
            for (int deep = 0; deep < 6; deep++) {
                boolean round = (way >> deep & 1) == 1;
                ahead.append(round ? "(" : "not ");
                behind.append(round ? ")" : "");
            }
            fault(ahead + "open" + behind, -1);
            fault(ahead + "(open)" + behind, ahead.length());
            fault(ahead + "not open" + behind, ahead.length());
            fault(ahead + " not open" + behind, ahead.length() + 1);
            fault(ahead + "(", ahead.length());
            fault(ahead.toString(), ahead.length());
        }
    }

    private static void sixDeepAgain() {
        String six = "((((((open))))))";
        String nots = "not not not not not not open";
        fault("pop if " + six + "and" + six + "or" + six, -1);
        fault("pop if " + nots + " and " + nots + " or " + nots, -1);
        fault("pop if " + six + ";pop if " + six, -1);
        fault("pop if (not open and not open and not open and not open and not open and not open)", -1);
        fault("pop if ((open) and (open) and (open) and (open) and (open) and (open) and (open))", -1);
        fault("pop if (((((open and " + nots, 25);
        fault("pop if ((((((open) or (open)) or (open)) or (open)) or (open)) or (open))", -1);
        fault("pop if ((((((open) or (open)) or (open)) or (open)) or (open)) or (((((((open)))))))", 71);
        JarCabinet x = Check.withJars(1);
        Check.law(x, "add 1 if " + nots);
        CHECK.due("six times not is so", 0, () -> x.advice(0, 0, true));
        x.ask(0, 0);
        CHECK.due("six times not is so", 1, () -> x.advice(0, 0, true));
    }

    /** A stroke stands behind each thing with which a text may end. */
    private static final String[] LINES = {
        "add 4| if open|", "less 5| if ( not honey or 1 + jar < view and water )|", "sour 3|", "pop|",
        "pop| if 7 > year| + 3|", "sour 2| if vinegar| and not ( matter > place or spoons < sour )|",
        "add 4| ; less 3| if not open| ; pop| if 1 < 2|",
        "pop| if 1 + 2 + jar > 3| + 4| and open| or open|",
    };

    private static String joined(String[] things, int n) {
        return String.join(" ", Arrays.copyOf(things, n));
    }

    private static void moreMustCome() {
        CHECK.says("or the text's length, if more must come.");
        for (String line : LINES) {
            String[] things = line.split(" ");
            for (int n = 1; n <= things.length; n++) {
                String text = joined(things, n).replace("|", "");
                boolean whole = things[n - 1].endsWith("|");
                fault(text, whole ? -1 : text.length());
                fault(text + "  ", whole ? -1 : text.length() + 2);
                fault("   " + text, whole ? -1 : text.length() + 3);
            }
            String whole = line.replace("|", "");
            fault(whole + ";", whole.length() + 1);
            fault(whole + ";;", whole.length() + 1);
        }
    }

    private static void wrongThings() {
        CHECK.says("a word that is none;");
        String[] wrong = {"%", "zz", "1000", "0001", "If", "ands", "jars", "seal", "label", "-1", "=", "\u00fe",
            "\t", "peel", "quota"};
        for (String ends : LINES) {
            String line = ends.replace("|", "");
            String[] things = line.split(" ");
            for (int n = 0; n < things.length; n++) {
                for (String w : wrong) {
                    String[] other = things.clone();
                    other[n] = w;
                    fault(String.join(" ", other), n == 0 ? 0 : joined(things, n).length() + 1);
                }
            }
            for (String w : wrong) {
                fault(line + " " + w, line.length() + 1);
            }
            otherLetters(line);
        }
    }

    /** A word with another letter at its begin, or at its end, is none. */
    private static void otherLetters(String line) {
        for (int at = 0; at < line.length(); at++) {
            boolean word = isLetter(line.charAt(at));
            boolean first = at == 0 || !isLetter(line.charAt(at - 1));
            boolean last = at + 1 == line.length() || !isLetter(line.charAt(at + 1));
            if (word && (first || last)) {
                int begin = line.lastIndexOf(' ', at) + 1;
                fault(line.substring(0, at) + "z" + line.substring(at + 1), begin);
                fault(line.substring(0, at) + "x" + line.substring(at + 1), begin);
            }
        }
    }

    private static boolean isFigure(int b) {
        return b >= '0' && b <= '9';
    }

    private static boolean isLetter(int b) {
        return b >= 'a' && b <= 'z';
    }

    private static void everyByte() {
        CHECK.says("Words are as long as a to z go on; between all there may be blanks (32)");
        for (int b = 0; b < 256; b++) {
            char c = (char) b;
            fault("" + c, c == ' ' ? -1 : 0);
            fault("pop" + c, c == ' ' ? -1 : c == ';' ? 4 : isLetter(b) ? 0 : 3);
            fault("pop if 1" + c + "2", c == '<' || c == '>' ? -1 : c == '+' || isFigure(b) ? 10 : c == ' ' ? 9 : 8);
            fault("pop if" + c + "open", c == ' ' ? -1 : isLetter(b) ? 4 : c == '(' ? 11 : isFigure(b) ? 7 : 6);
            fault("pop if (open" + c, c == ')' ? -1 : c == ' ' ? 13 : isLetter(b) ? 8 : 12);
            fault("add 9" + c, c == ' ' || isFigure(b) ? -1 : c == ';' ? 6 : 5);
            fault("add" + c + "9", c == ' ' || isFigure(b) ? -1 : isLetter(b) ? 0 : 3);
        }
    }

    private static void fullTape() {
        String most = "pop if 1<2" + "or1<1".repeat(78);
        CHECK.due("400 bytes", 400, () -> most.length());
        fault(most, -1);
        fault(most.substring(0, 399), 399);
        fault(most.substring(0, 399) + "%", 399);
        JarCabinet x = Check.with(Check.jar("honey", 0, 1, 0, 1, "000000"), most);
        CHECK.due("the first of 79 holds", 1, () -> x.years(1));
        String least = "add 1 if " + "0>jar or ".repeat(42) + "jar<1" + " ".repeat(8);
        CHECK.due("400 bytes", 400, () -> least.length());
        JarCabinet y = Check.withJars(2);
        Check.law(y, least);
        CHECK.due("the last of 43 holds", 1, () -> y.advice(0, 0, true));
        CHECK.due("none of 43 holds", 0, () -> y.advice(1, 0, true));
        String sum = "add 1 if 999" + "+999".repeat(95) + ">999+9 ";
        CHECK.due("a long sum", 399, () -> sum.length());
        JarCabinet z = Check.withJars(1);
        Check.law(z, sum);
        CHECK.due("95904 is above", 1, () -> z.advice(0, 0, true));
    }

    private static void inPlaceOfTheOneBefore() {
        CHECK.says("Uses the TAPE up: THE LAW: how many LINES. IllegalArgumentException: the text is wrong.");
        JarCabinet x = Check.withJars(1);
        String[] texts = {"add 1", "add 2;add 3 if honey", "", "less 9", "   ", "add 1 if water;pop;sour 3"};
        int[] lines = {1, 2, 0, 1, 0, 3};
        int[] advice = {2, 6, 1, 0, 1, 1};
        for (int k = 0; k < texts.length; k++) {
            int t = k;
            CHECK.due("law", lines[t], () -> Check.law(x, texts[t]));
            CHECK.argument("a wrong one", () -> Check.law(x, "add 9;add 9;add 9;add"));
            CHECK.due("lines", lines[t], () -> x.count(3));
            CHECK.due("advice", advice[t], () -> x.advice(0, 1, true));
        }
        for (int n = 0; n < 30; n++) {
            CHECK.due("texts without end", 1, () -> Check.law(x, "pop"));
        }
    }

    private static void faults() {
        CHECK.says("The first wrong byte of the latest text that was read; NONE without one, and ahead of any.");
        JarCabinet x = new JarCabinet();
        CHECK.due("ahead of any", -1, x::fault);
        CHECK.argument("wrong at 0", () -> Check.law(x, "%"));
        CHECK.due("at 0", 0, x::fault);
        CHECK.due("a right one", 1, () -> Check.cabinet(x, "peel 1"));
        CHECK.due("none", -1, x::fault);
        CHECK.argument("wrong at the last byte", () -> Check.cabinet(x, " ".repeat(399) + ";"));
        CHECK.due("at 399", 399, x::fault);
        CHECK.argument("more must come behind 400", () -> Check.law(x, "add 1 if 1" + "+1".repeat(195)));
        CHECK.due("at 400", 400, x::fault);
        CHECK.due("a right one", 0, () -> Check.law(x, ""));
        CHECK.due("none", -1, x::fault);
        CHECK.argument("tastes", () -> Check.feed(x, "zz").tastes(true));
        CHECK.argument("next", () -> Check.feed(x, "zz").next());
        CHECK.due("tastes are no text", -1, x::fault);
    }

    private static void advice(int view, String law, int want) {
        JarCabinet x = Check.with(Check.jar("honey", 0, 1, 0, 1, ("" + view).repeat(6)), law);
        CHECK.due("advice of " + view + " by " + law, want, () -> x.advice(0, 3, true));
    }

    private static void adviceIsCut() {
        CHECK.says("VIEW and the sum of N of all add LINES that hold less that of all less LINES; "
                + "0 at least, 9 at most.");
        advice(5, "add 3", 8);
        advice(5, "add 4", 9);
        advice(5, "add 5", 9);
        advice(5, "add 99", 9);
        advice(9, "add 1", 9);
        advice(9, "", 9);
        advice(5, "less 4", 1);
        advice(5, "less 5", 0);
        advice(5, "less 6", 0);
        advice(5, "less 99", 0);
        advice(0, "less 1", 0);
        advice(0, "", 0);
        advice(5, "add 10;less 9", 6);
        advice(5, "less 9;add 5", 1);
        advice(5, "add 99;add 99;less 99;less 99", 5);
        advice(5, "add 99;".repeat(11) + "less 99", 9);
        advice(5, "less 99;".repeat(11) + "add 99", 0);
        advice(9, "less 99;".repeat(6) + "add 99;add 99;add 99;add 99;add 99;add 99", 9);
        advice(5, "sour 3;pop", 5);
    }

    private static void belowAndAbove() {
        CHECK.says("SUM < SUM | SUM > SUM.");
        for (int sour = 4; sour <= 6; sour++) {
            JarCabinet x = Check.with(Check.jar("honey", 0, 1, sour, 1, "000000"));
            String[] laws = {"sour<5", "sour>5", "5<sour", "5>sour", "sour<sour", "sour>sour",
                "sour+0<sour+1", "sour+1>2+3", "not sour<5", "not sour>5"};
            boolean[] due = {sour < 5, sour > 5, 5 < sour, 5 > sour, false, false, true, sour > 4, sour > 4, sour < 6};
            for (int k = 0; k < laws.length; k++) {
                int l = k;
                Check.law(x, "add 1 if " + laws[k]);
                CHECK.due(laws[k] + " by " + sour, due[k] ? 1 : 0, () -> x.advice(0, 0, true));
                CHECK.due("likewise", due[l] ? 1 : 0, () -> x.ahead(0, 0, 2));
            }
        }
    }

    private static void partsOfSums() {
        CHECK.says("by what it has then: jar: its number; matter, view: of the MATTER that is asked, and the VIEW of it");
        JarCabinet x = Check.with(Check.jar("water", 11, 20, 99, 9, "012389") + ";"
                + Check.jar("honey", 0, 0, 0, 0, "000000"));
        x.years(50);
        x.years(50);
        String[] parts = {"jar", "matter", "view", "sour", "spoons", "place", "year"};
        int[] first = {0, 5, 9, 99, 20, 11, 100};
        int[] second = {1, 5, 0, 0, 0, 0, 100};
        for (int k = 0; k < parts.length; k++) {
            int p = k;
            Check.law(x, "less 9;add 9 if " + parts[k] + "+1>" + first[k] + " and " + parts[k] + "<" + (first[k] + 1));
            CHECK.due("just " + first[k] + " of " + parts[p], 9, () -> x.advice(0, 5, true));
            Check.law(x, "less 9;add 10 if " + parts[k] + "+1>" + second[k] + " and " + parts[k] + "<" + (second[k] + 1));
            CHECK.due("just " + second[k] + " of " + parts[p], 1, () -> x.advice(1, 5, true));
        }
    }

    private static void matterAndViewAreNought() {
        CHECK.says("(both 0 for sour, pop LINES)");
        JarCabinet x = Check.with(Check.jar("honey", 0, 1, 0, 0, "999999"), "sour 1 if matter<1;sour 2 if matter>0;"
                + "sour 4 if view<1;sour 8 if view>0;sour 16 if matter+1>0;sour 32 if view+1>0;add 1");
        x.advice(0, 5, true);
        x.years(1);
        CHECK.due("both are just 0", 53, () -> x.jar(0, 3));
        Check.law(x, "pop if matter>0 or view>0");
        x.ask(0, 5);
        x.undo();
        CHECK.due("both are 0: none pops", 0, () -> x.years(1));
        Check.law(x, "pop if matter<1 and view<1");
        CHECK.due("both are 0: it pops", 1, () -> x.years(1));
    }

    private static void liquids() {
        CHECK.says("vinegar | honey | water | open | SUM < SUM");
        String[] names = {"vinegar", "honey", "water"};
        JarCabinet x = new JarCabinet();
        for (int k = 0; k < 3; k++) {
            Check.cabinet(x, Check.jar(names[k], k, 3, 0, 0, "000000"));
        }
        x.ask(1, 0);
        Check.law(x, "add 1 if vinegar;add 2 if honey;add 4 if water;add 3 if open and vinegar or open and honey");
        int[] due = {1, 5, 4};
        for (int k = 0; k < 3; k++) {
            int jar = k;
            CHECK.due("of " + names[k], due[k], () -> x.advice(jar, 0, true));
        }
        x.close(1);
        CHECK.due("not open any more", 2, () -> x.advice(1, 0, true));
    }

    /** All that can be true of three at once, by every way to bind them. */
    private static void bindings() {
        CHECK.says("C: ALL { or ALL }; ALL: ATOM { and ATOM }; ATOM: not ATOM | ( C )");
        for (int bits = 0; bits < 8; bits++) {
            boolean a = (bits & 1) == 1;
            boolean b = (bits & 2) == 2;
            boolean c = (bits & 4) == 4;
            String[] laws = {"A or B and C", "A and B or C", "(A or B) and C", "A and (B or C)", "not A or B and C",
                "not A and B or C", "not (A or B) and C", "not (A and B or C)", "A or not (B and not C)",
                "A and B and C", "A or B or C", "(((A)) and ((B)))or(C)", "A and not not B or not C",
                "(A and (B or C)) and (A or (B and C))"};
            boolean[] due = {a || b && c, a && b || c, (a || b) && c, a && (b || c), !a || b && c, !a && b || c,
                !(a || b) && c, !(a && b || c), a || !(b && !c), a && b && c, a || b || c, a && b || c, a && b || !c,
                a && (b || c) && (a || b && c)};
            JarCabinet x = Check.withJars(1);
            for (int k = 0; k < laws.length; k++) {
                String law = laws[k].replace("A", a ? "1>0" : "0>1").replace("B", b ? "honey" : "water")
                        .replace("C", c ? "jar<1" : "jar>0");
                Check.law(x, "add 1 if " + law);
                CHECK.due(law, due[k] ? 1 : 0, () -> x.advice(0, 0, true));
            }
        }
    }

    private static void withoutText() {
        CHECK.says("(Without a text: ADVICE is the VIEW, vinegar SOURS by 1, all else by 0, nothing POPS.)");
        String three = Check.jar("vinegar", 0, 1, 0, 0, "123456") + ";" + Check.jar("honey", 1, 1, 0, 0, "123456")
                + ";" + Check.jar("water", 2, 1, 0, 0, "123456");
        JarCabinet x = Check.with(three);
        CHECK.due("no election", 0, () -> x.years(1));
        int[] sour = {1, 0, 0};
        for (int jar = 0; jar < 3; jar++) {
            int j = jar;
            CHECK.due("sour", sour[j], () -> x.jar(j, 3));
            CHECK.due("advice", 6, () -> x.advice(j, 5, true));
        }
        Check.law(x, "");
        x.years(1);
        CHECK.due("by a text without a line nothing sours", 1, () -> x.jar(0, 3));
        CHECK.due("lines", 0, () -> x.count(3));
    }
}

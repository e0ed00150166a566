import java.nio.charset.StandardCharsets;

/** Promises 1 to 6: a new object, the tape, texts of THE CABINET and of THE LAW, their faults. */
public final class TextTest {
    private static final Check CHECK = new Check("TextTest");
    private static final String HONEY = "jar honey at 0 spoons 1 sour 1 seal 1 views ";

    public static void main(String[] args) {
        newObject();
        feeding();
        ending();
        cabinetTexts();
        cabinetSetsAll();
        wrongCabinetsLeaveNothing();
        mostTexts();
        lawTexts();
        faultStays();
        cabinetFaults();
        lawFaults();
        faultsByState();
        CHECK.end();
    }

    private static void newObject() {
        JarCabinet x = new JarCabinet();
        int[] counts = {0, 0, 0, -1, 0, 1, 0, 0, 0, 0, 0, 0, 0, 0, -1};
        for (int what = 0; what < counts.length; what++) {
            int w = what;
            CHECK.due("new count " + w, counts[w], () -> x.count(w));
        }
        CHECK.due("new count -1", -1, () -> x.count(-1));
        CHECK.due("new fault", -1, x::fault);
        CHECK.due("new tape ends at 0", true, () -> x.end(0));
        CHECK.due("new tape has no byte", false, () -> x.end(1));
        for (int place = 0; place < 12; place++) {
            int p = place;
            CHECK.due("new light", 0, () -> x.light(p));
        }
        CHECK.due("new seed", 1, () -> x.seed(7));
        CHECK.due("no image", false, x::back);
        CHECK.due("no act", false, x::undo);
        CHECK.due("NONE", -1, () -> JarCabinet.NONE);
    }

    private static void feeding() {
        JarCabinet x = new JarCabinet();
        // "quot" "a 71" ";pee" "l 35" "    "
        CHECK.due("feed", 20, () -> x.feed(0x71756f74, 0x61203731, 0x3b706565, 0x6c203335, 0x20202020));
        CHECK.due("fed text", 1, x::cabinet);
        CHECK.due("highest byte first: quota", 71, () -> x.count(5));
        CHECK.due("highest byte first: peel", 35, () -> x.count(6));
        for (int n = 20; n <= 400; n += 20) {
            CHECK.due("feed", n, () -> x.feed(-1, -1, -1, -1, -1));
        }
        CHECK.due("feed beyond 400", -1, () -> x.feed(0, 0, 0, 0, 0));
        CHECK.due("none came", false, () -> x.end(401));
        CHECK.due("all are there", true, () -> x.end(400));
        x.end(381);
        CHECK.due("feed to 401", -1, () -> x.feed(0, 0, 0, 0, 0));
        CHECK.due("still 381", false, () -> x.end(382));
        x.end(380);
        CHECK.due("feed to 400", 400, () -> x.feed(0, 0, 0, 0, 0));
    }

    private static void ending() {
        JarCabinet x = new JarCabinet();
        Check.feed(x, "quota 12            ");
        CHECK.due("end(-1)", false, () -> x.end(-1));
        CHECK.due("end(MIN)", false, () -> x.end(Integer.MIN_VALUE));
        CHECK.due("end beyond", false, () -> x.end(21));
        CHECK.due("end as it is", true, () -> x.end(20));
        CHECK.due("end", true, () -> x.end(7));
        CHECK.due("end longer again", false, () -> x.end(8));
        CHECK.due("cut text", 1, x::cabinet);
        CHECK.due("its first bytes", 1, () -> x.count(5));
        CHECK.due("the tape is used up", false, () -> x.end(1));
    }

    private static void cabinetTexts() {
        JarCabinet x = new JarCabinet();
        CHECK.due("empty text", 1, () -> Check.cabinet(x, ""));
        CHECK.due("blank text", 2, () -> Check.cabinet(x, "     "));
        CHECK.due("a jar", 3, () -> Check.cabinet(x, HONEY + "123456"));
        CHECK.due("jars", 1, () -> x.count(0));
        CHECK.due("blanks where they may be", 4, () -> Check.cabinet(x,
                "  jar water at11spoons20sour99seal9views000000  ;  quota   90;light 5 9;light 5 3 "));
        CHECK.due("jars", 2, () -> x.count(0));
        CHECK.due("the later light", 3, () -> x.light(5));
        CHECK.due("four digits", 5, () -> Check.cabinet(x, "quota 0007;need 9999 0005 0009"));
        CHECK.due("quota", 7, () -> x.count(5));
        CHECK.due("need", 9999, () -> x.need(0, 0));
        CHECK.due("texts", 5, () -> x.count(2));
    }

    private static void cabinetSetsAll() {
        JarCabinet x = Check.with("jar water at 11 spoons 20 sour 99 seal 9 views 012345;wasps 100;"
                + "jar vinegar at 0 spoons 0 sour 0 seal 0 views 987654;light 0 9;need 3 4 5;peel 44");
        int[][] jars = {{2, 11, 20, 99, 9, 0, 0}, {0, 0, 0, 0, 0, 1, 0}};
        for (int jar = 0; jar < 2; jar++) {
            for (int what = 0; what < 7; what++) {
                int j = jar;
                int w = what;
                CHECK.due("jar " + j + " " + w, jars[j][w], () -> x.jar(j, w));
            }
        }
        for (int matter = 0; matter < 6; matter++) {
            int m = matter;
            CHECK.due("view", m, () -> x.advice(0, m, false));
            CHECK.due("view", 9 - m, () -> x.advice(1, m, false));
        }
        CHECK.due("light", 9, () -> x.light(0));
        CHECK.due("need year", 3, () -> x.need(0, 0));
        CHECK.due("need matter", 4, () -> x.need(0, 1));
        CHECK.due("need low", 5, () -> x.need(0, 2));
        CHECK.due("peel", 44, () -> x.count(6));
        CHECK.due("wasps", 100, () -> x.count(7));
        CHECK.due("quota as it was", 1, () -> x.count(5));
    }

    private static void wrongCabinetsLeaveNothing() {
        JarCabinet x = Check.with("quota 5;light 1 1;" + HONEY + "111111");
        x.ask(0, 0);
        CHECK.argument("wrong text", () -> Check.cabinet(x, "quota 9;light 1 7;peel 3;wasps 4;need 1 1 1;"
                + "jar water at 4 spoons 1 sour 1 seal 1 views 000000;jar"));
        int[] counts = {1, 0, 1, -1, 0, 5, 0, 0, 0, 1, 0, 1, 1, 1};
        for (int what = 0; what < counts.length; what++) {
            int w = what;
            CHECK.due("count " + w + " behind a wrong text", counts[w], () -> x.count(w));
        }
        CHECK.due("light behind a wrong text", 1, () -> x.light(1));
        CHECK.due("the tape is used up", false, () -> x.end(1));
        CHECK.due("the place is free still", 2,
                () -> Check.cabinet(x, "jar water at 4 spoons 1 sour 1 seal 1 views 000000"));
        CHECK.due("a text: no act is remembered", 0, () -> x.count(13));
        CHECK.due("open ones stay so", 1, () -> x.count(11));
        CHECK.due("jars", 2, () -> x.count(0));
        CHECK.due("needs", 0, () -> x.count(1));
        CHECK.due("quota", 5, () -> x.count(5));
        CHECK.due("peel", 0, () -> x.count(6));
        CHECK.due("light", 1, () -> x.light(1));
    }

    private static void mostTexts() {
        JarCabinet x = new JarCabinet();
        for (int n = 1; n <= 12; n++) {
            CHECK.due("text", n, () -> Check.cabinet(x, "quota 2"));
        }
        x.years(1);
        CHECK.argument("a wrong one is wrong first", () -> Check.cabinet(x, "quota 0"));
        CHECK.due("its fault", 6, x::fault);
        CHECK.unsupported("a 13th", () -> Check.cabinet(x, "quota 3"));
        CHECK.due("it was right", -1, x::fault);
        CHECK.due("quota as it was", 2, () -> x.count(5));
        CHECK.due("texts", 12, () -> x.count(2));
        CHECK.due("acts as they were", 1, () -> x.count(13));
        CHECK.due("the tape is used up", false, () -> x.end(1));
        CHECK.unsupported("an empty 13th", x::cabinet);
    }

    private static void lawTexts() {
        JarCabinet x = Check.with(HONEY + "123456");
        CHECK.due("no law", -1, () -> x.count(3));
        CHECK.due("law", 2, () -> Check.law(x, "add 1;less 2 if open"));
        CHECK.due("advice", 2, () -> x.advice(0, 0, true));
        x.close(0);
        CHECK.argument("wrong law", () -> Check.law(x, "add 5;ad"));
        CHECK.due("the tape is used up", false, () -> x.end(1));
        CHECK.due("lines as they were", 2, () -> x.count(3));
        CHECK.due("advice as it was", 2, () -> x.advice(0, 0, true));
        CHECK.due("acts as they were", 1, () -> x.count(13));
        CHECK.due("in place of the one before", 1, () -> Check.law(x, "add 3"));
        CHECK.due("advice", 4, () -> x.advice(0, 0, true));
        CHECK.due("a text: no act is remembered", 0, () -> x.count(13));
        CHECK.due("empty law", 0, () -> Check.law(x, " "));
        CHECK.due("lines", 0, () -> x.count(3));
        CHECK.due("advice", 1, () -> x.advice(0, 0, true));
        CHECK.due("texts of the cabinet", 1, () -> x.count(2));
    }

    private static void faultStays() {
        JarCabinet x = new JarCabinet();
        CHECK.argument("wrong", () -> Check.cabinet(x, "quota 1;x"));
        CHECK.due("fault", 8, x::fault);
        x.years(1);
        x.undo();
        x.image();
        x.back();
        Check.feed(x, new byte[] {9, 9});
        CHECK.argument("tastes are no text", () -> x.tastes(true));
        CHECK.due("fault stays", 8, x::fault);
        CHECK.argument("wrong law", () -> Check.law(x, "pop 1"));
        CHECK.due("fault of the latest", 4, x::fault);
        Check.law(x, "");
        CHECK.due("none", -1, x::fault);
    }

    private static void cabinetFault(String text, int want) {
        JarCabinet x = new JarCabinet();
        Check.feed(x, text.getBytes(StandardCharsets.ISO_8859_1));
        Object due = want == -1 ? 1 : "throws.IllegalArgumentException";
        CHECK.due("cabinet of " + text, due, x::cabinet);
        CHECK.due("fault of " + text, want, x::fault);
    }

    private static void cabinetFaults() {
        Object[][] rows = {
            {"", -1}, {"   ", -1}, {";", 0}, {" ;", 1}, {"quota", 5}, {"quota ", 6}, {"quota 1;", 8},
            {"quota 1; ", 9}, {"quota 1;;quota 1", 8}, {"quota 90", -1}, {"quota 91", 6}, {"quota 0", 6},
            {"quota 0001", -1}, {"quota 00001", 6}, {"quota1", -1}, {"quotas 1", 0}, {"Quota 1", 0},
            {"quota 1 quota 2", 8}, {"quota 1 2", 8}, {"quota x", 6}, {"quota\t1", 5}, {"quota 1\0", 7},
            {"quota 1\u00e9", 7}, {"quota -1", 6}, {"quota 99999999999999999999", 6}, {"q uota 1", 0},
            {"peel 0", -1}, {"peel 100", -1}, {"peel 101", 5}, {"wasps 0", -1}, {"wasps 100", -1},
            {"wasps 101", 6}, {"wasps", 5}, {"wasp 1", 0}, {"peelz 1", 0}, {"peel z", 5}, {"1", 0}, {"sour 1", 0}, {"pop", 0},
            {"light 11 9", -1}, {"light 12 9", 6}, {"light 11 10", 9}, {"light 11", 8}, {"light 1;", 7},
            {"light 119", 6}, {"light 0 0 0", 10}, {"need 0 5 9", -1}, {"need 0 5 10", 9},
            {"need 0 6 1", 7}, {"need 0 0 0", 9}, {"need 9999 0 1", -1}, {"need 10000 0 1", 5},
            {"need 0 0", 8}, {"need 0 0 1 1", 11}, {"jar", 3}, {"jar honey", 9}, {"jar honeyat 3", 4},
            {"jar wine at 3", 4}, {"jar 1", 4}, {"jar honey at", 12}, {"jar honey in 1", 10},
            {"jar honey at 12 spoons 1", 13}, {"jar honey at 11 spoons 21", 23},
            {"jar honey at 1 spoon 1", 15}, {"jar honey at 1 spoons 20 sour 100", 30},
            {"jar honey at 1 spoons 20 sour 99 seal 10", 38}, {"jar honey at 1 spoons 20 seal 1", 25},
            {HONEY + "123456", -1}, {HONEY + "12345", 44}, {HONEY + "1234567", 44}, {HONEY, 44},
            {HONEY + "12345a", 44}, {HONEY + "123 456", 44}, {HONEY + "x23456", 44},
            {HONEY + "123456 jar", 51}, {HONEY + "123456;jar honey at 0", 64},
            {HONEY + "123456;jar honey at 1", 65}, {HONEY + "123456;jar honey at 0000 x", 64},
        };
        for (Object[] row : rows) {
            cabinetFault((String) row[0], (Integer) row[1]);
        }
        cabinetFault("peel 1;".repeat(13) + "peel 1", -1);
        cabinetFault("peel 1;".repeat(13) + "peel 1;", 98);
        cabinetFault("peel 1;".repeat(14) + " peel 1", 99);
        cabinetFault("peel 1;".repeat(14) + "x", 98);
        cabinetFault("need 1 1 1;".repeat(10) + "peel 1", -1);
        cabinetFault("need 1 1 1;".repeat(10) + "need 1 1 1", 110);
    }

    private static void lawFault(String text, int want) {
        JarCabinet x = new JarCabinet();
        Check.feed(x, text.getBytes(StandardCharsets.ISO_8859_1));
        boolean none = text.isBlank();
        Object due = want == -1 ? none ? 0 : text.split(";").length : "throws.IllegalArgumentException";
        CHECK.due("law of " + text, due, x::law);
        CHECK.due("fault of " + text, want, x::fault);
    }

    private static void lawFaults() {
        Object[][] rows = {
            {"", -1}, {"  ", -1}, {"pop", -1}, {"pop;", 4}, {"pop; pop", -1}, {";pop", 0}, {"pop pop", 4},
            {"pops", 0}, {"popz", 0}, {"pop ifz", 4}, {"pop if zopen", 7}, {"pop 5", 4}, {"add", 3}, {"add 99", -1}, {"add 099", -1}, {"add 0099", 4},
            {"add 100", 4}, {"less 0", -1}, {"sour 99", -1}, {"sour 0001", 5}, {"sour x", 5},
            {"add 1 if", 8}, {"add 1 if open", -1}, {"add 1 if open and", 17}, {"add 1 if open or", 16},
            {"add 1 if open not", 14}, {"add 1 if (open", 14}, {"add 1 if (open)", -1},
            {"add 1 if open)", 13}, {"add 1 if ()", 10}, {"add 1 if 1<2", -1}, {"add 1 if 1<1000", 11},
            {"add 1 if 1<999", -1}, {"add 1 if 0001<9", 9}, {"add 1 if 1=2", 10}, {"add 1 if 1<2<3", 12},
            {"add 1 if 1+<2", 11}, {"add 1 if +1<2", 9}, {"add 1 if sour", 13}, {"add 1 if sour<", 14},
            {"add 1 if (sour)>1", 14}, {"add 1 if sour and", 14}, {"add 1 if sour 1", 14},
            {"add 1 if jar+matter+view+sour+spoons+place+year+7>0", -1}, {"add 1if open", -1},
            {"add1if1<2or2>1", -1}, {"popif open", 0}, {"pop if vinegar or honey and not water", -1},
            {"less 1 if honey<2", 15}, {"pop if open open", 12}, {"pop if if", 7}, {"pop if seal>1", 7},
            {"pop if 1<vinegar", 9}, {"pop if not", 10}, {"pop if not and", 11}, {"pop if or", 7},
            {"pop if ((((((open))))))", -1}, {"pop if (((((((open)))))))", 13},
            {"pop if not not not not not not open", -1}, {"pop if not not not not not not not open", 31},
            {"pop if not(not(not(open)))", -1}, {"pop if not(not(not(not open)))", 19},
            {"pop if not(not(not((open))))", 19}, {"quota 1", 0}, {"POP", 0}, {"pop if open\n", 11},
            {"pop if (not not not not not open) and (not not not not not open)", -1},
            {"pop if (((open)))and((((((open))))))", -1}, {"pop if open;add 1 if", 20},
        };
        for (Object[] row : rows) {
            lawFault((String) row[0], (Integer) row[1]);
        }
        lawFault("pop;".repeat(11) + "pop", -1);
        lawFault("pop;".repeat(12), 48);
        lawFault("pop;".repeat(12) + "  pop", 50);
        lawFault("pop if 1<1" + "or1<1".repeat(78), -1);
    }

    private static void faultsByState() {
        JarCabinet x = new JarCabinet();
        for (int k = 0; k < 10; k++) {
            Check.cabinet(x, "jar water at " + k + " spoons 1 sour 1 seal 1 views 000000");
        }
        CHECK.argument("an 11th jar", () -> Check.cabinet(x,
                "peel 1; jar water at 11 spoons 1 sour 1 seal 1 views 000000"));
        CHECK.due("its first word", 8, x::fault);
        CHECK.due("jars", 10, () -> x.count(0));
        JarCabinet y = new JarCabinet();
        y.years(3);
        CHECK.argument("a year gone by", () -> Check.cabinet(y, "need 2 0 1"));
        CHECK.due("at its number", 5, y::fault);
        CHECK.due("this year", 1, () -> Check.cabinet(y, "need 3 0 1"));
        JarCabinet z = Check.with(HONEY + "000000");
        z.move(0, 5);
        CHECK.argument("a place that a jar came to", () -> Check.cabinet(z, "jar honey at 5"));
        CHECK.due("at its number", 13, z::fault);
        CHECK.due("the place that it left", 2, () -> Check.cabinet(z, HONEY + "000000"));
    }
}

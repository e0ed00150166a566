import java.io.IOException;
import java.nio.charset.StandardCharsets;
import java.nio.file.Files;
import java.nio.file.Path;
import java.util.Objects;

/** What every test of the project needs: answers that are due, exceptions that are due, texts. */
final class Check {
    interface Call {
        Object answer();
    }

    interface NumberCall {
        Object answer(int n);
    }

    /** A new object, brought to where a test begins. */
    interface Start {
        JarCabinet made();
    }

    static final String INDEX = "throws.IndexOutOfBoundsException";
    static final String ARGUMENT = "throws.IllegalArgumentException";
    static final String STATE = "throws.IllegalStateException";
    static final String ELEMENT = "throws.NoSuchElementException";
    static final String UNSUPPORTED = "throws.UnsupportedOperationException";

    private static final Path DOCUMENT = Path.of("../shared/DOC.md");

    private final String test;
    private final String document;
    private String sentence = "";
    private int made = 0;
    private int wrong = 0;

    Check(String test) {
        this.test = test;
        this.document = Files.isReadable(DOCUMENT) ? read(DOCUMENT) : null;
    }

    private static String read(Path file) {
        try {
            return Files.readString(file).replaceAll("\\s+", " ");
        } catch (IOException e) {
            throw new IllegalStateException(e);
        }
    }

    /**
     * The sentence of the document that the answers behind this are about. It must stand there word
     * for word: if the document is changed, this tells which tests have to follow it.
     */
    void says(String words) {
        sentence = " (\"" + words + "\")";
        if (document != null) {
            due("the document's words", true, () -> document.contains(words));
        }
    }

    /** What a call answers: its value as a text, or "throws." and the exception's name. */
    static String said(Call call) {
        try {
            return String.valueOf(call.answer());
        } catch (RuntimeException e) {
            return "throws." + e.getClass().getSimpleName();
        }
    }

    void due(String what, Object want, Call call) {
        made++;
        String got = said(call);
        if (!Objects.equals(got, String.valueOf(want))) {
            wrong++;
            System.out.println(test + ": " + what + " answered " + got + ", due is " + want + sentence);
        }
    }

    /** No exception from least to most; the one that is due on both sides, and far away. */
    void range(String what, int least, int most, String thrown, NumberCall call) {
        for (int n : new int[] {least, most}) {
            due(what + " of " + n + " throws", false, () -> said(() -> call.answer(n)).startsWith("throws."));
        }
        for (int n : new int[] {least - 1, most + 1, most + 32, Integer.MIN_VALUE, Integer.MAX_VALUE}) {
            due(what + " of " + n, thrown, () -> call.answer(n));
        }
    }

    void index(String what, Call call) {
        due(what, INDEX, call);
    }

    void argument(String what, Call call) {
        due(what, ARGUMENT, call);
    }

    void state(String what, Call call) {
        due(what, STATE, call);
    }

    void element(String what, Call call) {
        due(what, ELEMENT, call);
    }

    void unsupported(String what, Call call) {
        due(what, UNSUPPORTED, call);
    }

    /** Ends the test: exit code 1 if an answer was not the one that is due. */
    void end() {
        System.out.println(test + ": " + made + " answers looked at, " + wrong + " wrong");
        if (wrong > 0 || made == 0) {
            System.exit(1);
        }
    }

    static JarCabinet feed(JarCabinet x, String text) {
        return feed(x, text.getBytes(StandardCharsets.ISO_8859_1));
    }

    /** Puts bytes on an empty tape; cuts off what fills up the last twenty. */
    static JarCabinet feed(JarCabinet x, byte[] bytes) {
        for (int at = 0; at < bytes.length; at += 20) {
            int[] five = new int[5];
            for (int i = 0; i < 20; i++) {
                int sign = at + i < bytes.length ? bytes[at + i] & 255 : 0;
                five[i / 4] |= sign << 24 - 8 * (i % 4);
            }
            x.feed(five[0], five[1], five[2], five[3], five[4]);
        }
        x.end(bytes.length);
        return x;
    }

    static int cabinet(JarCabinet x, String text) {
        return feed(x, text).cabinet();
    }

    static int law(JarCabinet x, String text) {
        return feed(x, text).law();
    }

    static String jar(String liquid, int place, int spoons, int sour, int seal, String views) {
        return "jar " + liquid + " at " + place + " spoons " + spoons + " sour " + sour + " seal " + seal
                + " views " + views;
    }

    /** So many jars of honey with 9 spoons each, on the places from 0 on, told in pairs. */
    static JarCabinet withJars(int jars) {
        JarCabinet x = new JarCabinet();
        for (int k = 0; k < jars; k += 2) {
            String first = jar("honey", k, 9, 0, 1, "012345");
            cabinet(x, k + 1 < jars ? first + ";" + jar("honey", k + 1, 9, 0, 1, "012345") : first);
        }
        return x;
    }

    static JarCabinet with(String cabinet) {
        JarCabinet x = new JarCabinet();
        cabinet(x, cabinet);
        return x;
    }

    static JarCabinet with(String cabinet, String law) {
        JarCabinet x = with(cabinet);
        law(x, law);
        return x;
    }
}

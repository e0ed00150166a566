import java.nio.charset.StandardCharsets;
import java.util.Objects;

/** What every test of the project needs: answers that are due, exceptions that are due, texts. */
final class Check {
    interface Call {
        Object answer();
    }

    private final String test;
    private int made = 0;
    private int wrong = 0;

    Check(String test) {
        this.test = test;
    }

    /** What a call answers: its value as a text, or "throws." and the exception's name. */
    static String said(Call call) {
        try {
            return String.valueOf(call.answer());
        } catch (RuntimeException e) {
            return "throws." + e.getClass().getSimpleName();
        }
    }

    void due(String what, Object want, Call call) {
        made++;
        String got = said(call);
        if (!Objects.equals(got, String.valueOf(want))) {
            wrong++;
            System.out.println(test + ": " + what + " answered " + got + ", due is " + want);
        }
    }

    void index(String what, Call call) {
        due(what, "throws.IndexOutOfBoundsException", call);
    }

    void argument(String what, Call call) {
        due(what, "throws.IllegalArgumentException", call);
    }

    void state(String what, Call call) {
        due(what, "throws.IllegalStateException", call);
    }

    void element(String what, Call call) {
        due(what, "throws.NoSuchElementException", call);
    }

    void unsupported(String what, Call call) {
        due(what, "throws.UnsupportedOperationException", call);
    }

    /** Ends the test: exit code 1 if an answer was not the one that is due. */
    void end() {
        System.out.println(test + ": " + made + " answers looked at, " + wrong + " wrong");
        if (wrong > 0 || made == 0) {
            System.exit(1);
        }
    }

    static JarCabinet feed(JarCabinet x, String text) {
        return feed(x, text.getBytes(StandardCharsets.ISO_8859_1));
    }

    /** Puts bytes on an empty tape; cuts off what fills up the last twenty. */
    static JarCabinet feed(JarCabinet x, byte[] bytes) {
        for (int at = 0; at < bytes.length; at += 20) {
            int[] five = new int[5];
            for (int i = 0; i < 20; i++) {
                int sign = at + i < bytes.length ? bytes[at + i] & 255 : 0;
                five[i / 4] |= sign << 24 - 8 * (i % 4);
            }
            x.feed(five[0], five[1], five[2], five[3], five[4]);
        }
        x.end(bytes.length);
        return x;
    }

    static int cabinet(JarCabinet x, String text) {
        return feed(x, text).cabinet();
    }

    static int law(JarCabinet x, String text) {
        return feed(x, text).law();
    }

    static JarCabinet with(String cabinet) {
        JarCabinet x = new JarCabinet();
        cabinet(x, cabinet);
        return x;
    }

    static JarCabinet with(String cabinet, String law) {
        JarCabinet x = with(cabinet);
        law(x, law);
        return x;
    }
}

/** Every call with every mixture of arguments at and beside their bounds, against the model. */
public final class GridTest {
    private static final Check CHECK = new Check("GridTest");
    private static final int[] WIDE = {Integer.MIN_VALUE, -100, -2, -1, 0, 1, 2, 3, 4, 5, 6, 7, 8, 9, 10, 11, 12, 13, 14,
        29, 30, 31, 32, 39, 40, 41, 49, 50, 51, 59, 60, 61, 63, 64, 1023, 1024, Integer.MAX_VALUE};
    private static final int[] NARROW = {Integer.MIN_VALUE, -2, -1, 0, 1, 2, 5, 6, 9, 10, 11, Integer.MAX_VALUE};
    /** An object is used for 512 calls at most: a new one is made well ahead of that. */
    private static final int MOST_CALLS = 400;

    private final int start;
    private JarCabinet x;
    private Model y;
    private int calls;

    private GridTest(int start) {
        this.start = start;
        begin();
    }

    public static void main(String[] args) {
        for (int start = 0; start < 5; start++) {
            new GridTest(start).all();
        }
        CHECK.end();
    }

    private void begin() {
        x = new JarCabinet();
        y = new Model();
        calls = 0;
        if (start > 0) {
            read(true, Check.jar("vinegar", 0, 20, 97, 9, "090909") + ";need 0 0 9;quota 9;light 0 9;light 11 1");
        }
        if (start > 1) {
            for (int k = 1; k < (start == 2 ? 2 : 10); k++) {
                read(true, Check.jar(k % 2 == 0 ? "honey" : "water", 12 - k, 10 - k, 10 * k, k, "12345" + k)
                        + ";need " + 5 * k + " " + k % 6 + " " + k);
            }
        }
        if (start > 2) {
            read(false, "add 3 if open;less 4 if sour>90;sour 7 if jar<5;pop if sour+year>98 and not water");
        }
        if (start > 3) {
            for (int n = 0; n < 13; n++) {
                act(() -> x.ask(0, 2), () -> y.ask(0, 2));
            }
            act(() -> x.mix(3, 4, 5), () -> y.mix(3, 4, 5));
            act(() -> x.label(2, 9), () -> y.label(2, 9));
            act(() -> x.label(9, -1), () -> y.label(9, -1));
            act(() -> x.years(2), () -> y.years(2));
        }
    }

    private void act(Check.Call got, Check.Call want) {
        Check.said(got);
        Check.said(want);
        calls++;
    }

    private void read(boolean cabinet, String text) {
        Check.feed(x, text);
        byte[] bytes = text.getBytes(java.nio.charset.StandardCharsets.ISO_8859_1);
        byte[] whole = java.util.Arrays.copyOf(bytes, (bytes.length + 19) / 20 * 20);
        java.nio.ByteBuffer b = java.nio.ByteBuffer.wrap(whole);
        for (int at = 0; at < whole.length; at += 20) {
            y.feed(b.getInt(at), b.getInt(at + 4), b.getInt(at + 8), b.getInt(at + 12), b.getInt(at + 16));
        }
        y.end(bytes.length);
        act(cabinet ? x::cabinet : x::law, cabinet ? y::cabinet : y::law);
    }

    private void same(String what, Check.Call got, Check.Call want) {
        if (calls > MOST_CALLS) {
            begin();
        }
        calls++;
        CHECK.due("start " + start + ": " + what, Check.said(want), got);
    }

    private void all() {
        one();
        for (int a : NARROW) {
            for (int b : WIDE) {
                two(a, b);
            }
        }
        for (int a : NARROW) {
            for (int b : NARROW) {
                for (int c : NARROW) {
                    three(a, b, c);
                }
            }
        }
        for (int n : WIDE) {
            for (int what : NARROW) {
                same("ahead 0 " + n + " " + what, () -> x.ahead(0, n, what), () -> y.ahead(0, n, what));
                same("log " + n + " " + what, () -> x.log(n, what), () -> y.log(n, what));
            }
        }
    }

    private void one() {
        for (int a : WIDE) {
            same("end " + a, () -> x.end(a), () -> y.end(a));
            same("light " + a, () -> x.light(a), () -> y.light(a));
            same("close " + a, () -> x.close(a), () -> y.close(a));
            same("years " + a, () -> x.years(a), () -> y.years(a));
            same("undo", () -> x.undo(), () -> y.undo());
            same("agree " + a, () -> x.agree(a), () -> y.agree(a));
            same("cover " + a, () -> x.cover(a), () -> y.cover(a));
            same("arranged " + a, () -> x.arranged(a), () -> y.arranged(a));
            same("falls " + a, () -> x.falls(a), () -> y.falls(a));
            same("wins " + a, () -> x.wins(a), () -> y.wins(a));
            same("goes " + a, () -> x.goes(a), () -> y.goes(a));
            same("whose " + a, () -> x.whose(a), () -> y.whose(a));
            same("ring " + a, () -> x.ring(a), () -> y.ring(a));
            same("asked " + a, () -> x.asked(a), () -> y.asked(a));
            same("led " + a, () -> x.led(a), () -> y.led(a));
            same("trial " + a, () -> x.trial(a, false), () -> y.trial(a, false));
            same("trial's elections " + a, () -> x.trial(a, true), () -> y.trial(a, true));
            same("span " + a, () -> x.span(a, false), () -> y.span(a, false));
            same("span's most " + a, () -> x.span(a, true), () -> y.span(a, true));
            same("seed " + a, () -> x.seed(a), () -> y.seed(a));
            same("count " + a, () -> x.count(a), () -> y.count(a));
        }
    }

    private void two(int a, int b) {
        String args = " " + a + " " + b;
        same("jar" + args, () -> x.jar(a, b), () -> y.jar(a, b));
        same("jar turned" + args, () -> x.jar(b, a), () -> y.jar(b, a));
        same("advice" + args, () -> x.advice(a, b, true), () -> y.advice(a, b, true));
        same("view" + args, () -> x.advice(b, a, false), () -> y.advice(b, a, false));
        same("need" + args, () -> x.need(a, b), () -> y.need(a, b));
        same("need turned" + args, () -> x.need(b, a), () -> y.need(b, a));
        same("ask" + args, () -> x.ask(a, b), () -> y.ask(a, b));
        same("label" + args, () -> x.label(a, b), () -> y.label(a, b));
        same("move" + args, () -> x.move(a, b), () -> y.move(a, b));
        same("best" + args, () -> x.best(a, b), () -> y.best(a, b));
        same("best turned" + args, () -> x.best(b, a), () -> y.best(b, a));
        same("ripe" + args, () -> x.ripe(a, b, true), () -> y.ripe(a, b, true));
        same("ripe turned" + args, () -> x.ripe(b, a, false), () -> y.ripe(b, a, false));
    }

    private void three(int a, int b, int c) {
        String args = " " + a + " " + b + " " + c;
        same("mix" + args, () -> x.mix(a, b, c), () -> y.mix(a, b, c));
        same("mixture" + args, () -> x.mixture(a, b, c), () -> y.mixture(a, b, c));
        same("war" + args, () -> x.war(a, b, c), () -> y.war(a, b, c));
        same("ahead" + args, () -> x.ahead(a, b, c), () -> y.ahead(a, b, c));
        same("spoils" + args, () -> x.spoils(a, b, c), () -> y.spoils(a, b, c));
    }
}

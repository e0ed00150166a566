import java.nio.ByteBuffer;
import java.nio.charset.StandardCharsets;
import java.util.Random;

/** Long runs of calls by chance (always the same ones): the class answers as the model does. */
public final class ModelTest {
    private static final int RUNS = 300;
    private static final int CALLS = 500;

    private final Check check = new Check("ModelTest");
    private final Random chance = new Random(20261118);
    private JarCabinet x;
    private Model y;
    private int run;

    public static void main(String[] args) {
        new ModelTest().all();
    }

    private void all() {
        for (run = 0; run < RUNS; run++) {
            x = new JarCabinet();
            y = new Model();
            if (run % 10 != 0) {
                text(true, 0);
                text(true, 0);
            }
            if (run % 3 != 0) {
                text(false, 0);
            }
            if (run % 4 == 1) {
                lightAll();
            }
            if (run % 4 == 2) {
                needMuch();
            }
            for (int call = 0; call < CALLS; call++) {
                any();
            }
        }
        check.end();
    }

    private void same(String what, Check.Call got, Check.Call want) {
        String due = Check.said(want);
        check.due("run " + run + ": " + what, due, got);
    }

    private int below(int n) {
        return chance.nextInt(n);
    }

    private boolean coin() {
        return chance.nextBoolean();
    }

    /** Mostly a jar that is there. */
    private int jar() {
        int jars = y.count(0);
        if (below(200) == 0) {
            return chance.nextInt();
        }
        return jars == 0 || below(12) == 0 ? below(14) - 2 : below(jars);
    }

    private int near(int most) {
        if (below(200) == 0) {
            return chance.nextInt();
        }
        return below(15) == 0 ? below(most + 5) - 2 : below(most + 1);
    }

    // ---------------------------------------------------------------- texts

    private String gap() {
        return below(4) == 0 ? " ".repeat(below(3)) : " ";
    }

    private String number(int least, int most) {
        int n = below(40) == 0 ? most + 1 + below(3) : least + below(most - least + 1);
        return below(25) == 0 ? "0" + n : "" + n;
    }

    private String one(String... of) {
        return of[below(of.length)];
    }

    private String cabinetLine() {
        switch (below(9)) {
            case 0: return "light " + number(0, 11) + " " + number(0, 9);
            case 1:
            case 2: return "need " + number(y.count(4), y.count(4) + (coin() ? 8 : 45)) + " "
                    + number(0, 5) + " " + number(1, 9);
            case 3: return one("quota" + gap() + number(1, 30), "peel " + number(0, 100),
                    "wasps" + gap() + number(0, 100));
            default:
                StringBuilder views = new StringBuilder();
                boolean few = coin();
                for (int m = 0; m < 6; m++) {
                    views.append(few ? 3 + below(4) : below(10));
                }
                return "jar " + one("vinegar", "honey", "water") + " at " + freePlace() + " spoons "
                        + number(0, coin() ? 3 : 20) + gap() + "sour " + number(0, 99) + " seal"
                        + gap() + number(0, 9) + " views" + gap() + views;
        }
    }

    private int freePlace() {
        int place = below(12);
        for (int tries = 0; tries < 30; tries++) {
            int wanted = place;
            boolean taken = false;
            for (int jar = 0; jar < y.count(0); jar++) {
                taken |= y.jar(jar, 1) == wanted;
            }
            if (!taken) {
                return place;
            }
            place = below(12);
        }
        return place;
    }

    private String sum() {
        StringBuilder s = new StringBuilder();
        for (int parts = 1 + below(6) / 4; parts > 0; parts--) {
            s.append(one("jar", "matter", "view", "sour", "spoons", "place", "year",
                    "" + below(10), "" + below(100)));
            s.append(parts > 1 ? gap() + "+" + gap() : "");
        }
        return s.toString();
    }

    private String atom(int deep) {
        switch (below(deep > 3 ? 6 : 9)) {
            case 0: return one("vinegar", "honey", "water");
            case 1: return "open";
            case 6: return "not " + atom(deep + 1);
            case 7: return "(" + gap() + cond(deep + 1) + gap() + ")";
            default: return sum() + gap() + one("<", ">") + gap() + sum();
        }
    }

    private String cond(int deep) {
        StringBuilder s = new StringBuilder(atom(deep));
        for (int more = below(5) - 2; more > 0; more--) {
            s.append(' ').append(one("and", "or")).append(' ').append(atom(deep));
        }
        return s.toString();
    }

    private String lawLine() {
        String head = below(6) == 0 ? "pop" : one("add ", "less ", "sour ") + number(0, coin() ? 4 : 30);
        boolean always = !head.equals("pop") && below(5) == 0;
        return head + (always ? gap() : " if " + cond(0));
    }

    private String textOf(boolean cabinet, int harm) {
        StringBuilder s = new StringBuilder(below(8) == 0 ? "  " : "");
        int lines = below(10) == 0 ? below(17) : 1 + below(6);
        for (int k = 0; k < lines; k++) {
            s.append(k > 0 ? ";" : "").append(cabinet ? cabinetLine() : lawLine());
        }
        for (int k = 0; k < harm && s.length() > 0; k++) {
            int at = below(s.length());
            switch (below(4)) {
                case 0: s.deleteCharAt(at); break;
                case 1: s.insert(at, one(" ", ";", "0", "a", "(", ")", "not ", "+", "<", "\u00e9"));
                    break;
                case 2: s.setLength(at); break;
                default: s.setCharAt(at, one("x", "9", " ", ";", "<", "A", "\t").charAt(0));
            }
        }
        return s.length() > 400 ? s.substring(0, 400) : s.toString();
    }

    private void feed(byte[] bytes) {
        for (int at = 0; at < bytes.length; at += 20) {
            ByteBuffer b = ByteBuffer.allocate(20);
            b.put(bytes, at, Math.min(20, bytes.length - at));
            int[] n = {b.getInt(0), b.getInt(4), b.getInt(8), b.getInt(12), b.getInt(16)};
            same("feed", () -> x.feed(n[0], n[1], n[2], n[3], n[4]), () -> y.feed(n));
        }
        same("end", () -> x.end(bytes.length), () -> y.end(bytes.length));
    }

    /** Every place has light, so that it matters where a jar is. */
    private void lightAll() {
        StringBuilder s = new StringBuilder("quota " + (1 + below(30)));
        int most = 2 + below(8);
        for (int place = 0; place < 12; place++) {
            s.append(";light ").append(place).append(' ').append(below(most));
        }
        read(true, s.toString());
        jars(6, 4);
        jars(4, 21);
    }

    /** More needs than spoons, so that they must be shared. */
    private void needMuch() {
        StringBuilder s = new StringBuilder("peel 5");
        for (int k = y.count(1); k < 10; k++) {
            s.append(";need ").append(below(4)).append(' ').append(below(6)).append(' ').append(3 + below(7));
        }
        read(true, s.toString());
        jars(6, 3);
        for (int k = 0; k < 20; k++) {
            same("plan", () -> x.plan(), () -> y.plan());
            act();
        }
    }

    private void jars(int most, int spoons) {
        for (int k = 0; k < most; k++) {
            StringBuilder views = new StringBuilder();
            for (int m = 0; m < 6; m++) {
                views.append(below(10));
            }
            read(true, "jar " + one("vinegar", "honey", "water") + " at " + freePlace() + " spoons "
                    + below(spoons) + " sour " + below(20) + " seal " + below(10) + " views " + views);
        }
    }

    private void text(boolean cabinet, int harm) {
        read(cabinet, textOf(cabinet, harm));
    }

    private void read(boolean cabinet, String text) {
        same("end(0)", () -> x.end(0), () -> y.end(0));
        feed(text.getBytes(StandardCharsets.ISO_8859_1));
        if (cabinet) {
            same("cabinet() of " + text, () -> x.cabinet(), () -> y.cabinet());
        } else {
            same("law() of " + text, () -> x.law(), () -> y.law());
        }
        same("fault() of " + text, () -> x.fault(), () -> y.fault());
    }

    private void tastes() {
        same("end(0)", () -> x.end(0), () -> y.end(0));
        int n = below(20) == 0 ? below(45) : 2 * below(4);
        byte[] bytes = new byte[n];
        int jar = jar();
        for (int i = 0; i + 1 < n; i += 2) {
            int matter = below(6);
            boolean so = jar >= 0 && jar < y.count(0) && below(4) != 0;
            bytes[i] = (byte) (below(60) == 0 ? 6 + below(250) : matter);
            bytes[i + 1] = (byte) (so ? y.advice(jar, matter, true) : below(40) == 0 ? 10 : below(10));
        }
        feed(bytes);
        boolean b = coin();
        if (below(3) == 0) {
            same("next()", () -> x.next(), () -> y.next());
        } else {
            same("tastes(" + b + ")", () -> x.tastes(b), () -> y.tastes(b));
        }
    }

    // ---------------------------------------------------------------- calls

    private void any() {
        switch (below(10)) {
            case 0: rare(); break;
            case 1:
            case 2:
            case 3: act(); break;
            default: question(below(34));
        }
    }

    private void rare() {
        int n = chance.nextInt();
        switch (below(24)) {
            case 0: text(true, below(3)); break;
            case 1: text(false, below(3)); break;
            case 2: text(coin(), 1); break;
            case 3: same("back()", () -> x.back(), () -> y.back()); break;
            case 4:
                x.image();
                y.image();
                break;
            case 5: same("seed", () -> x.seed(n), () -> y.seed(n)); break;
            case 6: same("end", () -> x.end(n % 50), () -> y.end(n % 50)); break;
            case 7: same("feed", () -> x.feed(n, 1, 2, 3, n), () -> y.feed(n, 1, 2, 3, n)); break;
            default: tastes();
        }
    }

    private void act() {
        int a = jar();
        int b = jar();
        int m = near(5);
        int p = near(11);
        int n = below(20) == 0 ? below(54) - 1 : 1 + below(3);
        switch (below(11)) {
            case 0:
            case 1:
            case 2: same("ask " + a + " " + m, () -> x.ask(a, m), () -> y.ask(a, m)); break;
            case 3:
            case 4: same("mix " + a + " " + b + " " + m, () -> x.mix(a, b, m), () -> y.mix(a, b, m));
                break;
            case 5: same("close " + a, () -> x.close(a), () -> y.close(a)); break;
            case 6: same("label " + a + " " + b, () -> x.label(a, b), () -> y.label(a, b)); break;
            case 7: same("move " + a + " " + p, () -> x.move(a, p), () -> y.move(a, p)); break;
            case 8: same("years " + n, () -> x.years(n), () -> y.years(n)); break;
            default: same("undo", () -> x.undo(), () -> y.undo());
        }
    }

    private void question(int which) {
        int a = jar();
        int b = jar();
        int m = near(5);
        int k = near(9);
        int n = near(40);
        int w = near(9);
        boolean c = coin();
        int set = below(5) == 0 ? chance.nextInt() : below(1024);
        String args = " of " + a + " " + b + " " + m + " " + k + " " + n + " " + w + " " + c + " " + set;
        switch (which) {
            case 0: same("jar" + args, () -> x.jar(a, w), () -> y.jar(a, w)); break;
            case 1: same("advice" + args, () -> x.advice(a, m, c), () -> y.advice(a, m, c)); break;
            case 2: same("light" + args, () -> x.light(n % 13), () -> y.light(n % 13)); break;
            case 3: same("need" + args, () -> x.need(k, w % 5), () -> y.need(k, w % 5)); break;
            case 4: same("mixture" + args, () -> x.mixture(a, b, m), () -> y.mixture(a, b, m)); break;
            case 5: same("best" + args, () -> x.best(m, k), () -> y.best(m, k)); break;
            case 6: same("coalition" + args, () -> x.coalition(), () -> y.coalition()); break;
            case 7: same("agree" + args, () -> x.agree(set), () -> y.agree(set)); break;
            case 8: same("cover" + args, () -> x.cover(k), () -> y.cover(k)); break;
            case 9: same("plan" + args, () -> x.plan(), () -> y.plan()); break;
            case 10: same("unmet" + args, () -> x.unmet(), () -> y.unmet()); break;
            case 11: same("harm" + args, () -> x.harm(), () -> y.harm()); break;
            case 12: same("arranged" + args, () -> x.arranged(a), () -> y.arranged(a)); break;
            case 13: same("arranged(NONE)", () -> x.arranged(-1), () -> y.arranged(-1)); break;
            case 14: same("falls" + args, () -> x.falls(n % 14 - 1), () -> y.falls(n % 14 - 1)); break;
            case 15: same("wins" + args, () -> x.wins(set), () -> y.wins(set)); break;
            case 16: same("smallest" + args, () -> x.smallest(c), () -> y.smallest(c)); break;
            case 17: same("dummies" + args, () -> x.dummies(), () -> y.dummies()); break;
            case 18: same("war" + args, () -> x.war(a, b, m), () -> y.war(a, b, m)); break;
            case 19: same("ahead" + args, () -> x.ahead(a, n, w), () -> y.ahead(a, n, w)); break;
            case 20: same("spoils" + args, () -> x.spoils(a, m, w), () -> y.spoils(a, m, w)); break;
            case 21: same("ripe" + args, () -> x.ripe(a, m, c), () -> y.ripe(a, m, c)); break;
            case 22: same("goes" + args, () -> x.goes(a), () -> y.goes(a)); break;
            case 23: same("wrong" + args, () -> x.wrong(c), () -> y.wrong(c)); break;
            case 24: same("whose" + args, () -> x.whose(a), () -> y.whose(a)); break;
            case 25: same("ring" + args, () -> x.ring(a), () -> y.ring(a)); break;
            case 26: same("asked" + args, () -> x.asked(a), () -> y.asked(a)); break;
            case 27: same("asked(NONE)", () -> x.asked(-1), () -> y.asked(-1)); break;
            case 28: same("led" + args, () -> x.led(m), () -> y.led(m)); break;
            case 29: same("trial" + args, () -> x.trial(n - 5, c), () -> y.trial(n - 5, c)); break;
            case 30: same("span" + args, () -> x.span(n - 5, c), () -> y.span(n - 5, c)); break;
            case 31: same("log" + args, () -> x.log(n - 1, w - 1), () -> y.log(n - 1, w - 1)); break;
            case 32: same("fault", () -> x.fault(), () -> y.fault()); break;
            default:
                int what = below(16) - 1;
                same("count " + what, () -> x.count(what), () -> y.count(what));
        }
    }
}

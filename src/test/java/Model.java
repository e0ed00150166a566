import java.util.ArrayDeque;
import java.util.ArrayList;
import java.util.Arrays;
import java.util.Deque;
import java.util.HashMap;
import java.util.List;
import java.util.Map;
import java.util.NoSuchElementException;
import java.util.function.IntPredicate;
import java.util.function.IntUnaryOperator;

/**
 * The document once more, in the slowest and plainest way: every question by trying all that can
 * be. ModelTest holds the class against it.
 */
final class Model {
    /** A text is wrong, from a byte on. */
    static final class WrongAt extends RuntimeException {
        private static final long serialVersionUID = 1L;
        final int at;

        WrongAt(int at) {
            this.at = at;
        }
    }

    static final class Jar {
        int number, liquid, place, spoons, sour, seal, label;
        boolean open;
        int[] views = new int[6];

        Jar copy() {
            Jar j = new Jar();
            j.number = number;
            j.liquid = liquid;
            j.place = place;
            j.spoons = spoons;
            j.sour = sour;
            j.seal = seal;
            j.label = label;
            j.open = open;
            j.views = views.clone();
            return j;
        }
    }

    /** A condition of THE LAW. */
    interface Cond {
        boolean holds(World w, Jar j, int matter, int view);
    }

    interface Sum {
        int value(World w, Jar j, int matter, int view);
    }

    record Line(String kind, int amount, Cond cond) { }

    record Row(int year, int jar, int other, int matter, int told) { }

    /** All that an image keeps. */
    static final class World {
        List<Jar> jars = new ArrayList<>();
        int[] light = new int[12];
        List<int[]> needs = new ArrayList<>();
        int quota = 1, peel = 0, wasps = 0, year = 0, seed = 1, texts = 0, elections = 0;
        List<Line> law = null;
        List<Row> log = new ArrayList<>();

        World copy() {
            World w = new World();
            for (Jar j : jars) {
                w.jars.add(j.copy());
            }
            w.light = light.clone();
            for (int[] n : needs) {
                w.needs.add(n.clone());
            }
            w.quota = quota;
            w.peel = peel;
            w.wasps = wasps;
            w.year = year;
            w.seed = seed;
            w.texts = texts;
            w.elections = elections;
            w.law = law;
            w.log = new ArrayList<>(log);
            return w;
        }

        int advice(Jar j, int matter) {
            int told = j.views[matter];
            if (law != null) {
                for (Line l : law) {
                    boolean holds = l.cond == null || l.cond.holds(this, j, matter, j.views[matter]);
                    if (holds && l.kind.equals("add")) {
                        told += l.amount;
                    }
                    if (holds && l.kind.equals("less")) {
                        told -= l.amount;
                    }
                }
            }
            return told < 0 ? 0 : told > 9 ? 9 : told;
        }

        int sours(Jar j) {
            if (law == null) {
                return j.liquid == 0 ? 1 : 0;
            }
            return law.stream().filter(l -> l.kind.equals("sour"))
                    .filter(l -> l.cond == null || l.cond.holds(this, j, 0, 0))
                    .mapToInt(Line::amount).sum();
        }

        boolean pops(Jar j) {
            return law != null && law.stream().filter(l -> l.kind.equals("pop"))
                    .anyMatch(l -> l.cond == null || l.cond.holds(this, j, 0, 0));
        }

        void goesOn() {
            for (Jar j : jars) {
                if (j.spoons > 0 && pops(j)) {
                    j.spoons = 0;
                    elections++;
                    for (Jar o : jars) {
                        if (o.place == j.place + 1 || o.place == j.place - 1) {
                            o.sour = Math.min(99, o.sour + 10);
                        }
                    }
                } else {
                    j.sour = Math.min(99, j.sour + sours(j));
                }
            }
        }

        int draw() {
            seed = (int) (1103515245L * seed + 12345L);
            return (int) ((seed & 0x7fff0000L) / 65536);
        }

        void year() {
            goesOn();
            if (draw() % 100 < peel && !jars.isEmpty()) {
                jars.get(draw() % jars.size()).label = -1;
            }
            if (draw() % 100 < wasps && !jars.isEmpty()) {
                Jar j = jars.get(draw() % jars.size());
                if (j.open && j.spoons > 0) {
                    j.spoons--;
                }
            }
            year++;
        }

        World ahead(int n) {
            World w = copy();
            for (int i = 0; i < n; i++) {
                w.goesOn();
                w.year++;
            }
            return w;
        }

        int spoons() {
            return jars.stream().mapToInt(j -> j.spoons).sum();
        }

        int seals(int set) {
            return jars.stream().filter(j -> (set & 1 << j.number) != 0).mapToInt(j -> j.seal).sum();
        }
    }

    private World w = new World();
    private World image = null;
    private final Deque<World> past = new ArrayDeque<>();
    private String tape = "";
    private int fault = -1;

    // ---------------------------------------------------------------- texts

    record Token(char kind, String text, int at) { }

    /** The things of a text: w words, n numbers, s signs, and e its end. */
    private static List<Token> tokens(String text) {
        List<Token> found = new ArrayList<>();
        java.util.regex.Matcher m =
                java.util.regex.Pattern.compile("([a-z]+)|([0-9]+)|( +)|([\\s\\S])").matcher(text);
        while (m.find()) {
            if (m.group(3) == null) {
                char kind = m.group(1) != null ? 'w' : m.group(2) != null ? 'n' : 's';
                found.add(new Token(kind, m.group(), m.start()));
            }
        }
        found.add(new Token('e', "", text.length()));
        return found;
    }

    private static final class Reader {
        final List<Token> tokens;
        int k = 0;

        Reader(String text) {
            tokens = tokens(text);
        }

        Token here() {
            return tokens.get(k);
        }

        WrongAt wrong() {
            return new WrongAt(here().at);
        }

        boolean is(String text) {
            return here().text.equals(text) && here().kind != 'e';
        }

        String word(String... allowed) {
            if (here().kind != 'w' || !Arrays.asList(allowed).contains(here().text)) {
                throw wrong();
            }
            return tokens.get(k++).text;
        }

        void sign(String sign) {
            if (!is(sign)) {
                throw wrong();
            }
            k++;
        }

        int number(int digits, int least, int most, IntPredicate can) {
            Token t = here();
            if (t.kind != 'n' || t.text.length() > digits) {
                throw wrong();
            }
            int n = Integer.parseInt(t.text);
            if (n < least || n > most || !can.test(n)) {
                throw wrong();
            }
            k++;
            return n;
        }
    }

    interface LineReader {
        void line(Reader r);
    }

    private static void lines(Reader r, int most, LineReader reader) {
        if (r.here().kind == 'e') {
            return;
        }
        for (int n = 1; ; n++) {
            if (n > most) {
                throw r.wrong();
            }
            reader.line(r);
            if (r.here().kind == 'e') {
                return;
            }
            r.sign(";");
        }
    }

    private static int liquid(String word) {
        return Arrays.asList("vinegar", "honey", "water").indexOf(word);
    }

    private static void cabinetLine(World w, Reader r) {
        IntPredicate any = n -> true;
        Token first = r.here();
        String word = r.word("jar", "light", "need", "quota", "peel", "wasps");
        if (word.equals("jar")) {
            if (w.jars.size() == 10) {
                throw new WrongAt(first.at);
            }
            Jar j = new Jar();
            j.number = j.label = w.jars.size();
            j.liquid = liquid(r.word("vinegar", "honey", "water"));
            r.word("at");
            j.place = r.number(4, 0, 11, p -> w.jars.stream().noneMatch(o -> o.place == p));
            r.word("spoons");
            j.spoons = r.number(4, 0, 20, any);
            r.word("sour");
            j.sour = r.number(4, 0, 99, any);
            r.word("seal");
            j.seal = r.number(4, 0, 9, any);
            r.word("views");
            if (r.here().kind != 'n' || r.here().text.length() != 6) {
                throw r.wrong();
            }
            for (int m = 0; m < 6; m++) {
                j.views[m] = Integer.parseInt(r.here().text.substring(m, m + 1));
            }
            r.k++;
            w.jars.add(j);
        } else if (word.equals("light")) {
            int place = r.number(4, 0, 11, any);
            w.light[place] = r.number(4, 0, 9, any);
        } else if (word.equals("need")) {
            if (w.needs.size() == 10) {
                throw new WrongAt(first.at);
            }
            int year = r.number(4, w.year, 9999, any);
            int matter = r.number(4, 0, 5, any);
            w.needs.add(new int[] {year, matter, r.number(4, 1, 9, any)});
        } else if (word.equals("quota")) {
            w.quota = r.number(4, 1, 90, any);
        } else if (word.equals("peel")) {
            w.peel = r.number(4, 0, 100, any);
        } else {
            w.wasps = r.number(4, 0, 100, any);
        }
    }

    private static void lawLine(List<Line> law, Reader r) {
        String kind = r.word("add", "less", "sour", "pop");
        int amount = kind.equals("pop") ? 0 : r.number(3, 0, 99, n -> true);
        Cond cond = null;
        if (r.is("if")) {
            r.k++;
            cond = either(r, 0);
        }
        law.add(new Line(kind, amount, cond));
    }

    private static Cond either(Reader r, int deep) {
        List<Cond> parts = new ArrayList<>(List.of(all(r, deep)));
        while (r.is("or")) {
            r.k++;
            parts.add(all(r, deep));
        }
        return (w, j, m, v) -> parts.stream().anyMatch(c -> c.holds(w, j, m, v));
    }

    private static Cond all(Reader r, int deep) {
        List<Cond> parts = new ArrayList<>(List.of(atom(r, deep)));
        while (r.is("and")) {
            r.k++;
            parts.add(atom(r, deep));
        }
        return (w, j, m, v) -> parts.stream().allMatch(c -> c.holds(w, j, m, v));
    }

    private static Cond atom(Reader r, int deep) {
        if (r.is("not") || r.is("(")) {
            if (deep == 6) {
                throw r.wrong();
            }
            boolean not = r.is("not");
            r.k++;
            if (not) {
                Cond c = atom(r, deep + 1);
                return (w, j, m, v) -> !c.holds(w, j, m, v);
            }
            Cond c = either(r, deep + 1);
            r.sign(")");
            return c;
        }
        int liquid = liquid(r.here().text);
        if (liquid >= 0) {
            r.k++;
            return (w, j, m, v) -> j.liquid == liquid;
        }
        if (r.is("open")) {
            r.k++;
            return (w, j, m, v) -> j.open;
        }
        Sum a = sum(r);
        if (!r.is("<") && !r.is(">")) {
            throw r.wrong();
        }
        boolean below = r.is("<");
        r.k++;
        Sum b = sum(r);
        return (w, j, m, v) -> below ? a.value(w, j, m, v) < b.value(w, j, m, v)
                : a.value(w, j, m, v) > b.value(w, j, m, v);
    }

    private static Sum sum(Reader r) {
        Sum s = part(r);
        while (r.is("+")) {
            r.k++;
            Sum left = s;
            Sum more = part(r);
            s = (w, j, m, v) -> left.value(w, j, m, v) + more.value(w, j, m, v);
        }
        return s;
    }

    private static Sum part(Reader r) {
        if (r.here().kind == 'n') {
            int n = r.number(3, 0, 999, x -> true);
            return (w, j, m, v) -> n;
        }
        switch (r.word("jar", "matter", "view", "sour", "spoons", "place", "year")) {
            case "jar": return (w, j, m, v) -> j.number;
            case "matter": return (w, j, m, v) -> m;
            case "view": return (w, j, m, v) -> v;
            case "sour": return (w, j, m, v) -> j.sour;
            case "spoons": return (w, j, m, v) -> j.spoons;
            case "place": return (w, j, m, v) -> j.place;
            default: return (w, j, m, v) -> w.year;
        }
    }

    // ---------------------------------------------------------------- the face

    int feed(int... five) {
        if (tape.length() + 20 > 400) {
            return -1;
        }
        StringBuilder s = new StringBuilder(tape);
        for (int n : five) {
            for (byte b : java.nio.ByteBuffer.allocate(4).putInt(n).array()) {
                s.append((char) (b & 255));
            }
        }
        tape = s.toString();
        return tape.length();
    }

    boolean end(int n) {
        if (n < 0 || n > tape.length()) {
            return false;
        }
        tape = tape.substring(0, n);
        return true;
    }

    private String useTape() {
        String t = tape;
        tape = "";
        return t;
    }

    int cabinet() {
        World next = w.copy();
        read(useTape(), 14, r -> cabinetLine(next, r));
        if (w.texts == 12) {
            throw new UnsupportedOperationException();
        }
        next.texts++;
        w = next;
        past.clear();
        return w.texts;
    }

    int law() {
        List<Line> law = new ArrayList<>();
        read(useTape(), 12, r -> lawLine(law, r));
        w.law = law;
        past.clear();
        return law.size();
    }

    private void read(String text, int most, LineReader reader) {
        try {
            lines(new Reader(text), most, reader);
            fault = -1;
        } catch (WrongAt e) {
            fault = e.at;
            throw new IllegalArgumentException();
        }
    }

    int fault() {
        return fault;
    }

    private Jar j(int jar) {
        if (jar < 0 || jar >= w.jars.size()) {
            throw new IndexOutOfBoundsException();
        }
        return w.jars.get(jar);
    }

    private static void within(int n, int most) {
        if (n < 0 || n > most) {
            throw new IndexOutOfBoundsException();
        }
    }

    private static void number(int n, int least, int most) {
        if (n < least || n > most) {
            throw new IllegalArgumentException();
        }
    }

    private boolean clash(Jar a, Jar b) {
        for (int m = 0; m < 6; m++) {
            if (Math.abs(w.advice(a, m) - w.advice(b, m)) >= 5) {
                return true;
            }
        }
        return false;
    }

    private int bits(java.util.function.Predicate<Jar> p) {
        return w.jars.stream().filter(p).mapToInt(j -> 1 << j.number).sum();
    }

    private List<Jar> of(int set) {
        return w.jars.stream().filter(j -> (set & 1 << j.number) != 0).toList();
    }

    private int allSets() {
        return 1 << w.jars.size();
    }

    private int power(Jar j) {
        int power = 0;
        for (int set = 0; set < allSets(); set++) {
            int own = 1 << j.number;
            if ((set & own) == 0 && !wins(set) && wins(set | own)) {
                power++;
            }
        }
        return power;
    }

    int jar(int jar, int what) {
        Jar j = j(jar);
        switch (what) {
            case 0: return j.liquid;
            case 1: return j.place;
            case 2: return j.spoons;
            case 3: return j.sour;
            case 4: return j.seal;
            case 5: return j.label;
            case 6: return j.open ? 1 : 0;
            case 7: return bits(o -> clash(j, o));
            case 8: return bits(o -> o != j && agree(1 << o.number | 1 << jar) == 63);
            case 9: return power(j);
            default: throw new NoSuchElementException();
        }
    }

    int advice(int jar, int matter, boolean now) {
        Jar j = j(jar);
        within(matter, 5);
        return now ? w.advice(j, matter) : j.views[matter];
    }

    int light(int place) {
        within(place, 11);
        return w.light[place];
    }

    private int answers(int[] need) {
        int n = need[0] - w.year;
        if (n < 0 || n > 40) {
            return 0;
        }
        World then = w.ahead(n);
        return then.jars.stream().filter(j -> j.spoons > 0 && then.advice(j, need[1]) >= need[2])
                .mapToInt(j -> 1 << j.number).sum();
    }

    int need(int k, int what) {
        within(k, w.needs.size() - 1);
        if (what < 0 || what > 3) {
            throw new NoSuchElementException();
        }
        return what == 3 ? answers(w.needs.get(k)) : w.needs.get(k)[what];
    }

    private void act() {
        past.addLast(w.copy());
        if (past.size() > 12) {
            past.removeFirst();
        }
    }

    private void enter(int jar, int other, int matter, int told) {
        w.log.add(new Row(w.year, jar, other, matter, told));
        if (w.log.size() > 60) {
            w.log.remove(0);
        }
    }

    private void spoon(Jar j) {
        j.spoons--;
        j.open = true;
    }

    int ask(int jar, int matter) {
        Jar j = j(jar);
        within(matter, 5);
        if (j.spoons == 0) {
            throw new IllegalStateException();
        }
        int told = w.advice(j, matter);
        act();
        spoon(j);
        enter(jar, -1, matter, told);
        return told;
    }

    int mix(int jar, int other, int matter) {
        int told = mixture(jar, other, matter);
        if (j(jar).spoons == 0 || j(other).spoons == 0) {
            throw new IllegalStateException();
        }
        act();
        spoon(j(jar));
        spoon(j(other));
        enter(jar, other, matter, told);
        return told;
    }

    boolean close(int jar) {
        boolean was = j(jar).open;
        act();
        j(jar).open = false;
        return was;
    }

    int label(int jar, int label) {
        int was = j(jar).label;
        if (label != -1) {
            j(label);
        }
        act();
        j(jar).label = label;
        return was;
    }

    int move(int jar, int place) {
        Jar j = j(jar);
        within(place, 11);
        act();
        int was = j.place;
        int other = -1;
        for (Jar o : w.jars) {
            if (o != j && o.place == place) {
                other = o.number;
                o.place = was;
            }
        }
        j.place = place;
        return other;
    }

    int years(int n) {
        number(n, 1, 50);
        act();
        int was = w.elections;
        for (int i = 0; i < n; i++) {
            w.year();
        }
        return w.elections - was;
    }

    int mixture(int jar, int other, int matter) {
        Jar a = j(jar);
        Jar b = j(other);
        within(matter, 5);
        if (a == b) {
            throw new IllegalArgumentException();
        }
        int x = w.advice(a, matter);
        int y = w.advice(b, matter);
        return x - y >= 5 || y - x >= 5 ? 0 : (x + y) / 2;
    }

    int best(int matter, int number) {
        within(matter, 5);
        number(number, 0, 9);
        for (int far = 0; far < 10; far++) {
            for (int a = 0; a < w.jars.size(); a++) {
                for (int b = a + 1; b < w.jars.size(); b++) {
                    if (Math.abs(mixture(a, b, matter) - number) == far) {
                        return 10 * a + b;
                    }
                }
            }
        }
        return -1;
    }

    int coalition() {
        boolean[][] clashes = new boolean[10][10];
        for (Jar a : w.jars) {
            for (Jar b : w.jars) {
                clashes[a.number][b.number] = clash(a, b);
            }
        }
        for (int size = w.jars.size(); size > 0; size--) {
            for (int set = 0; set < allSets(); set++) {
                if (Integer.bitCount(set) == size) {
                    List<Jar> jars = of(set);
                    if (jars.stream().noneMatch(
                            a -> jars.stream().anyMatch(b -> clashes[a.number][b.number]))) {
                        return set;
                    }
                }
            }
        }
        return 0;
    }

    int agree(int jars) {
        int found = 0;
        for (int m = 0; m < 6; m++) {
            int matter = m;
            if (of(jars).stream().map(j -> w.advice(j, matter)).distinct().count() <= 1) {
                found |= 1 << m;
            }
        }
        return found;
    }

    int cover(int number) {
        number(number, 0, 9);
        int[][] told = table(w);
        for (int size = 1; size <= w.jars.size(); size++) {
            for (int set = 0; set < allSets(); set++) {
                if (Integer.bitCount(set) == size) {
                    boolean all = true;
                    for (int m = 0; m < 6; m++) {
                        int matter = m;
                        all &= of(set).stream().anyMatch(j -> told[j.number][matter] >= number);
                    }
                    if (all) {
                        return set;
                    }
                }
            }
        }
        return -1;
    }

    private static int[][] table(World w) {
        int[][] told = new int[w.jars.size()][6];
        for (Jar j : w.jars) {
            for (int m = 0; m < 6; m++) {
                told[j.number][m] = w.advice(j, m);
            }
        }
        return told;
    }

    int plan() {
        int[] answers = w.needs.stream().mapToInt(this::answers).toArray();
        int[] spoons = w.jars.stream().mapToInt(j -> j.spoons).toArray();
        for (int size = answers.length; size > 0; size--) {
            for (int set = 0; set < 1 << answers.length; set++) {
                if (Integer.bitCount(set) == size && canMeet(set, 0, answers, spoons)) {
                    return set;
                }
            }
        }
        return 0;
    }

    private static boolean canMeet(int set, int k, int[] answers, int[] spoons) {
        if (k == answers.length) {
            return true;
        }
        if ((set & 1 << k) == 0) {
            return canMeet(set, k + 1, answers, spoons);
        }
        for (int j = 0; j < spoons.length; j++) {
            if ((answers[k] & 1 << j) != 0 && spoons[j] > 0) {
                spoons[j]--;
                boolean can = canMeet(set, k + 1, answers, spoons);
                spoons[j]++;
                if (can) {
                    return true;
                }
            }
        }
        return false;
    }

    int unmet() {
        for (int k = 0; k < w.needs.size(); k++) {
            if (answers(w.needs.get(k)) == 0) {
                return k;
            }
        }
        return -1;
    }

    private int thatTaste(int others) {
        String t = useTape();
        if (t.length() % 2 == 1 || t.length() / 2 > 20) {
            throw new IllegalArgumentException();
        }
        int[] wrong = new int[10];
        for (int i = 0; i < t.length(); i += 2) {
            int matter = t.charAt(i);
            int told = t.charAt(i + 1);
            if (matter > 5 || told > 9) {
                throw new IllegalArgumentException();
            }
            for (Jar j : w.jars) {
                wrong[j.number] += w.advice(j, matter) == told ? 0 : 1;
            }
        }
        return bits(j -> wrong[j.number] <= others);
    }

    int tastes(boolean otherwise) {
        return thatTaste(otherwise ? 1 : 0);
    }

    int next() {
        List<Jar> jars = of(thatTaste(0));
        if (jars.size() < 2) {
            return -1;
        }
        long fewest = 99;
        int best = -1;
        for (int m = 0; m < 6; m++) {
            Map<Integer, Integer> groups = new HashMap<>();
            for (Jar j : jars) {
                groups.merge(w.advice(j, m), 1, Integer::sum);
            }
            int most = groups.values().stream().max(Integer::compare).get();
            if (most < fewest) {
                fewest = most;
                best = m;
            }
        }
        return best;
    }

    int harm() {
        return w.jars.stream().mapToInt(j -> w.light[j.place] * j.spoons).sum();
    }

    private int least(int k, int taken, Map<Integer, Integer> known) {
        if (k == w.jars.size()) {
            return 0;
        }
        Integer before = known.get(taken);
        if (before != null) {
            return before;
        }
        int least = Integer.MAX_VALUE;
        for (int p = 0; p < 12; p++) {
            if ((taken & 1 << p) == 0) {
                least = Math.min(least, w.light[p] * w.jars.get(k).spoons
                        + least(k + 1, taken | 1 << p, known));
            }
        }
        known.put(taken, least);
        return least;
    }

    int arranged(int jar) {
        if (jar != -1) {
            j(jar);
        }
        Map<Integer, Integer> known = new HashMap<>();
        int least = least(0, 0, known);
        if (jar == -1) {
            return least;
        }
        int taken = 0;
        for (int k = 0; ; k++) {
            for (int p = 0; p < 12; p++) {
                int own = w.light[p] * w.jars.get(k).spoons;
                if ((taken & 1 << p) == 0 && own + least(k + 1, taken | 1 << p, known) == least) {
                    if (k == jar) {
                        return p;
                    }
                    taken |= 1 << p;
                    least -= own;
                    break;
                }
            }
        }
    }

    int falls(int place) {
        if (place == -1) {
            int worst = 0;
            for (int p = 0; p < 12; p++) {
                worst = falls(p) > falls(worst) ? p : worst;
            }
            return worst;
        }
        within(place, 11);
        return w.jars.stream().filter(j -> j.place >= place && j.place <= place + 2)
                .mapToInt(j -> j.spoons).sum();
    }

    boolean wins(int jars) {
        return w.seals(jars) >= w.quota;
    }

    private int leastSet(IntUnaryOperator weight) {
        int best = -1;
        for (int set = 0; set < allSets(); set++) {
            if (wins(set) && (best == -1 || weight.applyAsInt(set) < weight.applyAsInt(best))) {
                best = set;
            }
        }
        return best;
    }

    int smallest(boolean deal) {
        return leastSet(deal ? w::seals : Integer::bitCount);
    }

    int dummies() {
        return bits(j -> power(j) == 0);
    }

    int war(int jar, int other, int matter) {
        mixture(jar, other, matter);
        int a = w.advice(j(jar), matter);
        int b = w.advice(j(other), matter);
        // of the pairs 0 none, 1 the first one, 2 the second one, 3 both
        int[] first = {0, a, -3, a - 5};
        int[] second = {0, -3, b, b - 5};
        int rests = 0;
        for (int pair = 0; pair < 4; pair++) {
            if (first[pair ^ 1] <= first[pair] && second[pair ^ 2] <= second[pair]) {
                rests |= 1 << pair;
            }
        }
        return rests;
    }

    int ahead(int jar, int n, int what) {
        j(jar);
        number(n, 0, 40);
        if (what < 0 || what > 7) {
            throw new NoSuchElementException();
        }
        World then = w.ahead(n);
        Jar j = then.jars.get(jar);
        return what == 0 ? j.sour : what == 1 ? j.spoons : then.advice(j, what - 2);
    }

    int spoils(int jar, int matter, int number) {
        j(jar);
        within(matter, 5);
        number(number, 0, 10);
        for (int n = 0; n <= 40; n++) {
            if (ahead(jar, n, 2 + matter) < number) {
                return n;
            }
        }
        return -1;
    }

    int ripe(int jar, int matter, boolean much) {
        j(jar);
        within(matter, 5);
        int[] told = new int[41];
        for (int n = 0; n <= 40; n++) {
            told[n] = ahead(jar, n, 2 + matter);
        }
        int most = Arrays.stream(told).max().getAsInt();
        int first = 0;
        while (told[first] != most) {
            first++;
        }
        return much ? most : first;
    }

    int goes(int jar) {
        if (j(jar).spoons == 0) {
            return -1;
        }
        for (int n = 1; n <= 40; n++) {
            if (ahead(jar, n, 1) == 0) {
                return n;
            }
        }
        return -1;
    }

    int wrong(boolean nameless) {
        return bits(j -> nameless ? j.label == -1 : j.label != -1 && j.label != j.number);
    }

    int whose(int label) {
        j(label);
        return w.jars.stream().filter(j -> j.label == label).mapToInt(j -> j.number).min().orElse(-1);
    }

    int ring(int jar) {
        j(jar);
        int seen = 0;
        for (int at = jar; at != -1 && (seen & 1 << at) == 0; at = j(at).label) {
            seen |= 1 << at;
        }
        return seen;
    }

    int asked(int jar) {
        if (jar == -1) {
            int most = 0;
            int who = -1;
            for (int k = w.jars.size() - 1; k >= 0; k--) {
                if (asked(k) > 0 && asked(k) >= most) {
                    most = asked(k);
                    who = k;
                }
            }
            return who;
        }
        j(jar);
        return (int) w.log.stream().filter(r -> r.jar == jar || r.other == jar).count();
    }

    int led(int matter) {
        within(matter, 5);
        int jar = -1;
        for (Row r : w.log) {
            jar = r.matter == matter ? r.jar : jar;
        }
        return jar;
    }

    private World tried(int n, int seed) {
        World then = w.copy();
        then.seed = seed;
        then.elections = 0;
        for (int i = 0; i < n; i++) {
            then.year();
        }
        return then;
    }

    int trial(int n, boolean elections) {
        number(n, 0, 30);
        World then = tried(n, w.seed);
        return elections ? then.elections : then.spoons();
    }

    int span(int n, boolean most) {
        number(n, 0, 30);
        int[] spoons = new int[6];
        for (int seed = 1; seed <= 6; seed++) {
            spoons[seed - 1] = tried(n, seed).spoons();
        }
        Arrays.sort(spoons);
        return most ? spoons[5] : spoons[0];
    }

    int log(int ago, int what) {
        if (what < 0 || what > 4) {
            throw new NoSuchElementException();
        }
        if (ago < 0 || ago >= w.log.size()) {
            return -99;
        }
        Row r = w.log.get(w.log.size() - 1 - ago);
        return new int[] {r.year, r.jar, r.other, r.matter, r.told}[what];
    }

    int seed(int n) {
        int was = w.seed;
        w.seed = n;
        return was;
    }

    boolean undo() {
        if (past.isEmpty()) {
            return false;
        }
        w = past.removeLast();
        return true;
    }

    void image() {
        image = w.copy();
    }

    boolean back() {
        if (image == null) {
            return false;
        }
        w = image.copy();
        past.clear();
        return true;
    }

    int count(int what) {
        switch (what) {
            case 0: return w.jars.size();
            case 1: return w.needs.size();
            case 2: return w.texts;
            case 3: return w.law == null ? -1 : w.law.size();
            case 4: return w.year;
            case 5: return w.quota;
            case 6: return w.peel;
            case 7: return w.wasps;
            case 8: return w.spoons();
            case 9: return w.seals(-1);
            case 10: return w.elections;
            case 11: return bits(j -> j.open);
            case 12: return w.log.size();
            case 13: return past.size();
            default: return -1;
        }
    }
}

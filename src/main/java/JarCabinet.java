import java.util.NoSuchElementException;

/**
 * A frugal state whose past ministers are kept in jars. The document's promises are told in
 * ../shared/DOC.md; words in capitals are its terms.
 *
 * <p>Every row is made once, in a constructor: no call of the face makes an object, but for the
 * exception that it throws.
 */
public final class JarCabinet {
    public static final int NONE = -1;

    private static final int MOST_JARS = 10;
    private static final int MATTERS = 6;
    private static final int PLACES = 12;
    private static final int MOST_NEEDS = 10;
    private static final int MOST_TEXTS = 12;
    private static final int MOST_ACTS = 12;
    private static final int MOST_BYTES = 400;
    private static final int MOST_TASTES = 20;
    private static final int MOST_SOUR = 99;
    private static final int MOST_ADVICE = 9;
    private static final int MOST_YEARS = 50;
    private static final int MOST_TRIAL_YEARS = 30;
    private static final int FARTHEST = 40;
    private static final int VINEGAR = 0;
    private static final int HONEY = 1;
    private static final int WATER = 2;
    private static final int NO_ROW = -99;

    private final Tape tape = new Tape();
    private final Shelf shelf = new Shelf();
    private final Shelf draftShelf = new Shelf();
    private final Shelf keptShelf = new Shelf();
    private final Moment now = new Moment();
    private final Moment scratch = new Moment();
    private final Moment keptNow = new Moment();
    private final Law rules = new Law();
    private final Law draftRules = new Law();
    private final Law keptRules = new Law();
    private final LogBook book = new LogBook();
    private final LogBook keptBook = new LogBook();
    private final History past = new History();
    private final CabinetReader cabinetReader = new CabinetReader(tape, draftShelf, scratch);
    private final LawReader lawReader = new LawReader(tape, draftRules);
    private final Council council = new Council(shelf, now, rules);
    private final Rack rack = new Rack(shelf, now);
    private final Foresight foresight = new Foresight(shelf, now, rules, scratch);
    private boolean imageKept = false;
    private int wrongByte = NONE;

    public JarCabinet() {
    }

    public int feed(int a, int b, int c, int d, int e) {
        if (!tape.hasRoom()) {
            return NONE;
        }
        tape.append(a);
        tape.append(b);
        tape.append(c);
        tape.append(d);
        tape.append(e);
        return tape.size;
    }

    public boolean end(int n) {
        if (n < 0 || n > tape.size) {
            return false;
        }
        tape.size = n;
        return true;
    }

    public int cabinet() throws IllegalArgumentException, UnsupportedOperationException {
        draftShelf.become(shelf);
        scratch.become(now);
        boolean right = cabinetReader.readText();
        wrongByte = right ? NONE : tape.begin;
        tape.size = 0;
        if (!right) {
            throw new IllegalArgumentException("a wrong text of the cabinet");
        }
        if (shelf.texts >= MOST_TEXTS) {
            throw new UnsupportedOperationException("no more texts of the cabinet");
        }
        draftShelf.texts++;
        shelf.become(draftShelf);
        now.become(scratch);
        past.forget();
        return shelf.texts;
    }

    public int law() throws IllegalArgumentException {
        boolean right = lawReader.readText();
        wrongByte = right ? NONE : tape.begin;
        tape.size = 0;
        if (!right) {
            throw new IllegalArgumentException("a wrong text of the law");
        }
        rules.become(draftRules);
        past.forget();
        return rules.lines;
    }

    public int fault() {
        return wrongByte;
    }

    public int jar(int jar, int what) throws IndexOutOfBoundsException, NoSuchElementException {
        needJar(jar);
        switch (what) {
            case 0: return shelf.liquids[jar];
            case 1: return now.places[jar];
            case 2: return now.spoons[jar];
            case 3: return now.sours[jar];
            case 4: return shelf.seals[jar];
            case 5: return now.labels[jar];
            case 6: return now.isOpen(jar) ? 1 : 0;
            case 7: return council.clashesWith(jar);
            case 8: return council.alikeTo(jar);
            case 9: return council.powerOf(jar);
            default: throw new NoSuchElementException("no such what of a jar");
        }
    }

    public int advice(int jar, int matter, boolean now) throws IndexOutOfBoundsException {
        needJar(jar);
        needMatter(matter);
        return now ? council.adviceOf(jar, matter) : shelf.viewOf(jar, matter);
    }

    public int light(int place) throws IndexOutOfBoundsException {
        needPlace(place);
        return shelf.lights[place];
    }

    public int need(int k, int what) throws IndexOutOfBoundsException, NoSuchElementException {
        if (k < 0 || k >= shelf.needs) {
            throw new IndexOutOfBoundsException("no such need");
        }
        switch (what) {
            case 0: return shelf.needYears[k];
            case 1: return shelf.needMatters[k];
            case 2: return shelf.needLows[k];
            case 3: return foresight.answersTo(k);
            default: throw new NoSuchElementException("no such what of a need");
        }
    }

    public int ask(int jar, int matter) throws IndexOutOfBoundsException, IllegalStateException {
        needJar(jar);
        needMatter(matter);
        needSpoon(jar);
        int told = council.adviceOf(jar, matter);
        past.remember(now);
        now.useSpoon(jar);
        book.enter(now, jar, NONE, matter, told);
        return told;
    }

    public int mix(int jar, int other, int matter)
            throws IndexOutOfBoundsException, IllegalArgumentException, IllegalStateException {
        needTwo(jar, other, matter);
        needSpoon(jar);
        needSpoon(other);
        int told = council.mixtureOf(jar, other, matter);
        past.remember(now);
        now.useSpoon(jar);
        now.useSpoon(other);
        book.enter(now, jar, other, matter, told);
        return told;
    }

    public boolean close(int jar) throws IndexOutOfBoundsException {
        needJar(jar);
        boolean was = now.isOpen(jar);
        past.remember(now);
        now.putLidOn(jar);
        return was;
    }

    public int label(int jar, int label) throws IndexOutOfBoundsException {
        needJar(jar);
        if (label != NONE) {
            needJar(label);
        }
        int was = now.labels[jar];
        past.remember(now);
        now.labels[jar] = label;
        return was;
    }

    public int move(int jar, int place) throws IndexOutOfBoundsException {
        needJar(jar);
        needPlace(place);
        int other = now.jarOn(place, shelf.jars);
        past.remember(now);
        if (other == jar) {
            return NONE;
        }
        if (other != NONE) {
            now.places[other] = now.places[jar];
        }
        now.places[jar] = place;
        return other;
    }

    public int years(int n) throws IllegalArgumentException {
        if (n < 1 || n > MOST_YEARS) {
            throw new IllegalArgumentException("no such number of years");
        }
        int before = now.elections;
        past.remember(now);
        foresight.passYears(now, n);
        return now.elections - before;
    }

    public int mixture(int jar, int other, int matter)
            throws IndexOutOfBoundsException, IllegalArgumentException {
        needTwo(jar, other, matter);
        return council.mixtureOf(jar, other, matter);
    }

    public int best(int matter, int number)
            throws IndexOutOfBoundsException, IllegalArgumentException {
        needMatter(matter);
        needNumber(number, MOST_ADVICE);
        return council.bestMixOf(matter, number);
    }

    public int coalition() {
        return council.largestCoalition();
    }

    public int agree(int jars) {
        return council.agreedBy(jars & shelf.everyJar());
    }

    public int cover(int number) throws IllegalArgumentException {
        needNumber(number, MOST_ADVICE);
        return council.fewestThatCover(number);
    }

    public int plan() {
        return foresight.mostMet();
    }

    public int unmet() {
        return foresight.firstUnmet();
    }

    public int tastes(boolean otherwise) throws IllegalArgumentException {
        boolean right = tape.holdsTastes();
        int jars = right ? council.thatTasteSo(tape, otherwise ? 1 : 0) : 0;
        tape.size = 0;
        if (!right) {
            throw new IllegalArgumentException("the tape tells no tastes");
        }
        return jars;
    }

    public int next() throws IllegalArgumentException {
        boolean right = tape.holdsTastes();
        int jars = right ? council.thatTasteSo(tape, 0) : 0;
        tape.size = 0;
        if (!right) {
            throw new IllegalArgumentException("the tape tells no tastes");
        }
        return council.nextTasteAmong(jars);
    }

    public int harm() {
        return rack.harmNow();
    }

    public int arranged(int jar) throws IndexOutOfBoundsException {
        if (jar == NONE) {
            return rack.leastHarm();
        }
        needJar(jar);
        return rack.arrangedPlaceOf(jar);
    }

    public int falls(int place) throws IndexOutOfBoundsException {
        if (place == NONE) {
            return rack.worstPlace();
        }
        needPlace(place);
        return rack.fallsFrom(place);
    }

    public boolean wins(int jars) {
        return council.isWinning(jars & shelf.everyJar());
    }

    public int smallest(boolean deal) {
        return deal ? council.cheapestWinning() : council.fewestWinning();
    }

    public int dummies() {
        return council.powerless();
    }

    public int war(int jar, int other, int matter)
            throws IndexOutOfBoundsException, IllegalArgumentException {
        needTwo(jar, other, matter);
        return council.restsOfWar(jar, other, matter);
    }

    public int ahead(int jar, int n, int what)
            throws IndexOutOfBoundsException, IllegalArgumentException, NoSuchElementException {
        needJar(jar);
        needNumber(n, FARTHEST);
        if (what < 0 || what > MATTERS + 1) {
            throw new NoSuchElementException("no such what of a jar ahead");
        }
        foresight.lookAhead(n);
        if (what == 0) {
            return scratch.sours[jar];
        }
        if (what == 1) {
            return scratch.spoons[jar];
        }
        return foresight.adviceThen(jar, what - 2);
    }

    public int spoils(int jar, int matter, int number)
            throws IndexOutOfBoundsException, IllegalArgumentException {
        needJar(jar);
        needMatter(matter);
        needNumber(number, MOST_ADVICE + 1);
        return foresight.firstBelow(jar, matter, number);
    }

    public int ripe(int jar, int matter, boolean much) throws IndexOutOfBoundsException {
        needJar(jar);
        needMatter(matter);
        return foresight.ripest(jar, matter, much);
    }

    public int goes(int jar) throws IndexOutOfBoundsException {
        needJar(jar);
        return foresight.firstPopped(jar);
    }

    public int wrong(boolean nameless) {
        int jars = 0;
        for (int jar = 0; jar < shelf.jars; jar++) {
            int label = now.labels[jar];
            boolean meant = nameless ? label == NONE : label != NONE && label != jar;
            jars |= meant ? 1 << jar : 0;
        }
        return jars;
    }

    public int whose(int label) throws IndexOutOfBoundsException {
        needJar(label);
        for (int jar = 0; jar < shelf.jars; jar++) {
            if (now.labels[jar] == label) {
                return jar;
            }
        }
        return NONE;
    }

    public int ring(int jar) throws IndexOutOfBoundsException {
        needJar(jar);
        int seen = 0;
        int at = jar;
        for (int steps = 0; steps < MOST_JARS && shelf.hasJar(at); steps++) {
            seen |= 1 << at;
            at = now.labels[at];
        }
        return seen;
    }

    public int asked(int jar) throws IndexOutOfBoundsException {
        if (jar == NONE) {
            return book.askedMost(now, shelf.jars);
        }
        needJar(jar);
        return book.timesAsked(now, jar);
    }

    public int led(int matter) throws IndexOutOfBoundsException {
        needMatter(matter);
        return book.latestOf(now, matter);
    }

    public int trial(int n, boolean elections) throws IllegalArgumentException {
        needNumber(n, MOST_TRIAL_YEARS);
        int spoons = foresight.trySeed(n, now.seed);
        return elections ? scratch.elections - now.elections : spoons;
    }

    public int span(int n, boolean most) throws IllegalArgumentException {
        needNumber(n, MOST_TRIAL_YEARS);
        return foresight.spanOfTrials(n, most);
    }

    public int log(int ago, int what) throws NoSuchElementException {
        if (what < 0 || what >= LogBook.WIDTH) {
            throw new NoSuchElementException("no such what of a row");
        }
        return book.hasRow(now, ago) ? book.cell(now, ago, what) : NO_ROW;
    }

    public int seed(int n) {
        int was = now.seed;
        now.seed = n;
        return was;
    }

    public boolean undo() {
        return past.giveBack(now);
    }

    public void image() {
        keptShelf.become(shelf);
        keptNow.become(now);
        keptRules.become(rules);
        keptBook.become(book);
        imageKept = true;
    }

    public boolean back() {
        if (!imageKept) {
            return false;
        }
        shelf.become(keptShelf);
        now.become(keptNow);
        rules.become(keptRules);
        book.become(keptBook);
        past.forget();
        return true;
    }

    public int count(int what) {
        switch (what) {
            case 0: return shelf.jars;
            case 1: return shelf.needs;
            case 2: return shelf.texts;
            case 3: return rules.lines;
            case 4: return now.year;
            case 5: return shelf.quota;
            case 6: return shelf.peel;
            case 7: return shelf.wasps;
            case 8: return now.spoonsOfAll(shelf.jars);
            case 9: return shelf.sealsOf(shelf.everyJar());
            case 10: return now.elections;
            case 11: return now.open;
            case 12: return now.logRows;
            case 13: return past.size;
            default: return NONE;
        }
    }

    private void needJar(int jar) {
        if (!shelf.hasJar(jar)) {
            throw new IndexOutOfBoundsException("no such jar");
        }
    }

    private static void needMatter(int matter) {
        if (matter < 0 || matter >= MATTERS) {
            throw new IndexOutOfBoundsException("no such matter");
        }
    }

    private static void needPlace(int place) {
        if (place < 0 || place >= PLACES) {
            throw new IndexOutOfBoundsException("no such place");
        }
    }

    private static void needNumber(int number, int most) {
        if (number < 0 || number > most) {
            throw new IllegalArgumentException("no such number");
        }
    }

    private void needTwo(int jar, int other, int matter) {
        needJar(jar);
        needJar(other);
        needMatter(matter);
        if (jar == other) {
            throw new IllegalArgumentException("both jars are one");
        }
    }

    private void needSpoon(int jar) {
        if (now.spoons[jar] <= 0) {
            throw new IllegalStateException("no spoon is left");
        }
    }

    /** The bytes that were fed, and the thing (word, number or sign) at which a reader stands. */
    private static final class Tape {
        private static final int FEED = 20;
        private static final int BLANK = 32;
        private static final int AT_END = 0;
        private static final int WORD = 1;
        private static final int NUMBER = 2;
        private static final int SIGN = 3;
        /** A number that is as great is too great everywhere: more digits could make it go round. */
        private static final int TOO_GREAT = 10000;

        private final byte[] bytes = new byte[MOST_BYTES];
        int size = 0;
        /** Where the thing begins: the first wrong byte, if it cannot stand there. */
        int begin = 0;
        private int behind = 0;
        private int kind = AT_END;
        /** Of a number that stands there. */
        int value = 0;
        /** The number that was taken last. */
        int taken = 0;

        boolean hasRoom() {
            return size + FEED <= MOST_BYTES;
        }

        void append(int four) {
            for (int shift = 24; shift >= 0; shift -= 8) {
                if (size < MOST_BYTES) {
                    bytes[size] = (byte) (four >> shift);
                    size++;
                }
            }
        }

        int byteAt(int at) {
            return at >= 0 && at < size ? bytes[at] & 255 : NONE;
        }

        boolean holdsTastes() {
            if (size % 2 != 0 || size > 2 * MOST_TASTES) {
                return false;
            }
            for (int at = 0; at < size; at += 2) {
                if (byteAt(at) >= MATTERS || byteAt(at + 1) > MOST_ADVICE) {
                    return false;
                }
            }
            return true;
        }

        void start() {
            behind = 0;
            step();
        }

        void step() {
            begin = behind;
            while (begin < size && bytes[begin] == BLANK) {
                begin++;
            }
            behind = begin;
            value = 0;
            if (begin >= size) {
                kind = AT_END;
            } else if (bytes[begin] >= 'a' && bytes[begin] <= 'z') {
                kind = WORD;
                while (behind < size && bytes[behind] >= 'a' && bytes[behind] <= 'z') {
                    behind++;
                }
            } else if (bytes[begin] >= '0' && bytes[begin] <= '9') {
                kind = NUMBER;
                while (behind < size && bytes[behind] >= '0' && bytes[behind] <= '9') {
                    value = value < TOO_GREAT ? 10 * value + bytes[behind] - '0' : value;
                    behind++;
                }
            } else {
                kind = SIGN;
                behind++;
            }
        }

        boolean isAtEnd() {
            return kind == AT_END;
        }

        boolean isWord(String word) {
            if (kind != WORD || behind - begin != word.length()) {
                return false;
            }
            for (int i = 0; i < word.length(); i++) {
                if (bytes[begin + i] != word.charAt(i)) {
                    return false;
                }
            }
            return true;
        }

        boolean isSign(char sign) {
            return kind == SIGN && begin < size && bytes[begin] == sign;
        }

        boolean isNumber(int least, int most, int digits) {
            return kind == NUMBER && behind - begin <= digits && value >= least && value <= most;
        }

        boolean isFigures(int digits) {
            return kind == NUMBER && behind - begin == digits;
        }

        int figure(int k) {
            return byteAt(begin + k) - '0';
        }

        boolean takeWord(String word) {
            boolean there = isWord(word);
            if (there) {
                step();
            }
            return there;
        }

        boolean takeSign(char sign) {
            boolean there = isSign(sign);
            if (there) {
                step();
            }
            return there;
        }

        boolean takeNumber(int least, int most, int digits) {
            boolean there = isNumber(least, most, digits);
            if (there) {
                taken = value;
                step();
            }
            return there;
        }

        /** The LIQUID whose word stands there; NONE, and the tape stays, if it is none. */
        int takeLiquid() {
            if (takeWord("vinegar")) {
                return VINEGAR;
            }
            if (takeWord("honey")) {
                return HONEY;
            }
            return takeWord("water") ? WATER : NONE;
        }
    }

    /** What texts of THE CABINET alone can change: acts leave it as it is. */
    private static final class Shelf {
        int jars = 0;
        final int[] liquids = new int[MOST_JARS];
        final int[] seals = new int[MOST_JARS];
        private final int[] views = new int[MOST_JARS * MATTERS];
        final int[] lights = new int[PLACES];
        int needs = 0;
        final int[] needYears = new int[MOST_NEEDS];
        final int[] needMatters = new int[MOST_NEEDS];
        final int[] needLows = new int[MOST_NEEDS];
        int quota = 1;
        int peel = 0;
        int wasps = 0;
        int texts = 0;

        void become(Shelf other) {
            jars = other.jars;
            needs = other.needs;
            quota = other.quota;
            peel = other.peel;
            wasps = other.wasps;
            texts = other.texts;
            System.arraycopy(other.liquids, 0, liquids, 0, MOST_JARS);
            System.arraycopy(other.seals, 0, seals, 0, MOST_JARS);
            System.arraycopy(other.views, 0, views, 0, MOST_JARS * MATTERS);
            System.arraycopy(other.lights, 0, lights, 0, PLACES);
            System.arraycopy(other.needYears, 0, needYears, 0, MOST_NEEDS);
            System.arraycopy(other.needMatters, 0, needMatters, 0, MOST_NEEDS);
            System.arraycopy(other.needLows, 0, needLows, 0, MOST_NEEDS);
        }

        boolean hasJar(int jar) {
            return jar >= 0 && jar < jars;
        }

        int everyJar() {
            return (1 << jars) - 1;
        }

        int viewOf(int jar, int matter) {
            return views[jar * MATTERS + matter];
        }

        void setView(int jar, int matter, int view) {
            views[jar * MATTERS + matter] = view;
        }

        int sealsOf(int set) {
            int sum = 0;
            for (int jar = 0; jar < jars; jar++) {
                if ((set >> jar & 1) == 1) {
                    sum += seals[jar];
                }
            }
            return sum;
        }
    }

    /** What acts and years change: all that an act undone gives back. */
    private static final class Moment {
        private static final int DRAWN_BITS = 32767;

        final int[] places = new int[MOST_JARS];
        final int[] spoons = new int[MOST_JARS];
        final int[] sours = new int[MOST_JARS];
        final int[] labels = new int[MOST_JARS];
        int open = 0;
        int year = 0;
        int seed = 1;
        int elections = 0;
        /** Where THE LOG goes on and how many rows it has; the rows themselves are in the book. */
        int logHead = 0;
        int logRows = 0;

        void become(Moment other) {
            System.arraycopy(other.places, 0, places, 0, MOST_JARS);
            System.arraycopy(other.spoons, 0, spoons, 0, MOST_JARS);
            System.arraycopy(other.sours, 0, sours, 0, MOST_JARS);
            System.arraycopy(other.labels, 0, labels, 0, MOST_JARS);
            open = other.open;
            year = other.year;
            seed = other.seed;
            elections = other.elections;
            logHead = other.logHead;
            logRows = other.logRows;
        }

        boolean isOpen(int jar) {
            return (open >> jar & 1) == 1;
        }

        void useSpoon(int jar) {
            spoons[jar]--;
            open |= 1 << jar;
        }

        void putLidOn(int jar) {
            open &= ~(1 << jar);
        }

        void sourMore(int jar, int by) {
            sours[jar] = Math.min(MOST_SOUR, sours[jar] + by);
        }

        int jarOn(int place, int jars) {
            for (int jar = 0; jar < jars; jar++) {
                if (places[jar] == place) {
                    return jar;
                }
            }
            return NONE;
        }

        int spoonsOfAll(int jars) {
            int sum = 0;
            for (int jar = 0; jar < jars; jar++) {
                sum += spoons[jar];
            }
            return sum;
        }

        int draw() {
            seed = 1103515245 * seed + 12345;
            return seed >>> 16 & DRAWN_BITS;
        }
    }

    /** THE LAW: its LINES, the conditions as steps that are gone through in their order. */
    private static final class Law {
        static final int ADD = 0;
        static final int LESS = 1;
        static final int SOUR = 2;
        static final int POP = 3;

        static final int MOST_LINES = 12;
        /** No text gives more: the ATOMS with the most steps, as in "1<1or", have one a byte. */
        private static final int MOST_STEPS = MOST_BYTES;

        /** A step below this one is a number in a SUM. */
        static final int PART = 1000;
        static final int PARTS = 7;
        static final int LIQUID = 1100;
        static final int OPEN = 1200;
        static final int LEFT_IS_SUMMED = 1201;
        static final int BELOW = 1202;
        static final int ABOVE = 1203;
        static final int NOT = 1204;
        static final int AND = 1205;
        static final int OR = 1206;

        /** NONE without a text. */
        int lines = NONE;
        private final int[] kinds = new int[MOST_LINES];
        private final int[] amounts = new int[MOST_LINES];
        private final int[] ends = new int[MOST_LINES];
        private final int[] steps = new int[MOST_STEPS];
        private int size = 0;
        /** What a condition looks at: jar, matter, view, sour, spoons, place, year. */
        private final int[] parts = new int[PARTS];
        private int liquid = 0;
        private boolean open = false;

        void become(Law other) {
            lines = other.lines;
            size = other.size;
            System.arraycopy(other.kinds, 0, kinds, 0, MOST_LINES);
            System.arraycopy(other.amounts, 0, amounts, 0, MOST_LINES);
            System.arraycopy(other.ends, 0, ends, 0, MOST_LINES);
            System.arraycopy(other.steps, 0, steps, 0, MOST_STEPS);
        }

        void clear() {
            lines = 0;
            size = 0;
        }

        void addStep(int step) {
            if (size < MOST_STEPS) {
                steps[size] = step;
                size++;
            }
        }

        /** The steps that were added behind the LINE ahead of it are its condition. */
        void addLine(int kind, int amount) {
            if (lines >= 0 && lines < MOST_LINES) {
                kinds[lines] = kind;
                amounts[lines] = amount;
                ends[lines] = size;
                lines++;
            }
        }

        int adviceOf(Shelf shelf, Moment then, int jar, int matter) {
            int view = shelf.viewOf(jar, matter);
            lookAt(shelf, then, jar);
            parts[1] = matter;
            parts[2] = view;
            int told = view + sumOf(ADD) - sumOf(LESS);
            return Math.max(0, Math.min(MOST_ADVICE, told));
        }

        int soursBy(Shelf shelf, Moment then, int jar) {
            if (lines == NONE) {
                return shelf.liquids[jar] == VINEGAR ? 1 : 0;
            }
            lookAt(shelf, then, jar);
            return sumOf(SOUR);
        }

        boolean makesPop(Shelf shelf, Moment then, int jar) {
            lookAt(shelf, then, jar);
            for (int line = 0; line < lines; line++) {
                if (kinds[line] == POP && holds(line)) {
                    return true;
                }
            }
            return false;
        }

        private void lookAt(Shelf shelf, Moment then, int jar) {
            parts[0] = jar;
            parts[1] = 0;
            parts[2] = 0;
            parts[3] = then.sours[jar];
            parts[4] = then.spoons[jar];
            parts[5] = then.places[jar];
            parts[6] = then.year;
            liquid = shelf.liquids[jar];
            open = then.isOpen(jar);
        }

        private int sumOf(int kind) {
            int sum = 0;
            for (int line = 0; line < lines; line++) {
                if (kinds[line] == kind && holds(line)) {
                    sum += amounts[line];
                }
            }
            return sum;
        }

        /**
         * What the ATOMS say lies on a stack of bits: it has two a depth at most and one more, so
         * an int has room for it.
         */
        private boolean holds(int line) {
            int from = line == 0 ? 0 : ends[line - 1];
            int to = ends[line];
            int said = from == to ? 1 : 0;
            int left = 0;
            int sum = 0;
            for (int at = from; at < to; at++) {
                int step = steps[at];
                if (step < LIQUID) {
                    sum += step < PART ? step : parts[step - PART];
                } else if (step == LEFT_IS_SUMMED) {
                    left = sum;
                    sum = 0;
                } else if (step == BELOW || step == ABOVE) {
                    boolean so = step == BELOW ? left < sum : left > sum;
                    said = said << 1 | (so ? 1 : 0);
                    sum = 0;
                } else if (step <= OPEN) {
                    boolean so = step == OPEN ? open : liquid == step - LIQUID;
                    said = said << 1 | (so ? 1 : 0);
                } else if (step == NOT) {
                    said ^= 1;
                } else {
                    int last = said & 1;
                    int rest = said >>> 1;
                    said = step == OR ? rest | last : rest & (~1 | last);
                }
            }
            return (said & 1) == 1;
        }
    }

    /** Reads a text of THE CABINET into drafts, so that of a wrong one nothing stays. */
    private static final class CabinetReader {
        private static final int MOST_LINES = 14;
        private static final int DIGITS = 4;

        private final Tape tape;
        private final Shelf shelf;
        private final Moment moment;

        CabinetReader(Tape tape, Shelf shelf, Moment moment) {
            this.tape = tape;
            this.shelf = shelf;
            this.moment = moment;
        }

        /** If it is wrong, the tape stands at the first thing that is. */
        boolean readText() {
            tape.start();
            if (tape.isAtEnd()) {
                return true;
            }
            for (int line = 0; line < MOST_LINES; line++) {
                if (!readLine()) {
                    return false;
                }
                if (tape.isAtEnd()) {
                    return true;
                }
                if (!tape.takeSign(';')) {
                    return false;
                }
            }
            return false;
        }

        private boolean readLine() {
            if (tape.isWord("jar")) {
                return shelf.jars < MOST_JARS && readJar();
            }
            if (tape.isWord("need")) {
                return shelf.needs < MOST_NEEDS && readNeed();
            }
            if (tape.takeWord("light")) {
                return readLight();
            }
            if (tape.takeWord("quota")) {
                return readQuota();
            }
            if (tape.takeWord("peel")) {
                return readPeel();
            }
            return tape.takeWord("wasps") && readWasps();
        }

        private boolean readJar() {
            int jar = shelf.jars;
            tape.step();
            int liquid = tape.takeLiquid();
            if (liquid == NONE || !tape.takeWord("at") || !takeFreePlace(jar)) {
                return false;
            }
            if (!tape.takeWord("spoons") || !takeNumber(0, 20)) {
                return false;
            }
            moment.spoons[jar] = tape.taken;
            if (!tape.takeWord("sour") || !takeNumber(0, MOST_SOUR)) {
                return false;
            }
            moment.sours[jar] = tape.taken;
            if (!tape.takeWord("seal") || !takeNumber(0, 9)) {
                return false;
            }
            shelf.seals[jar] = tape.taken;
            if (!tape.takeWord("views") || !takeViews(jar)) {
                return false;
            }
            shelf.liquids[jar] = liquid;
            moment.labels[jar] = jar;
            moment.putLidOn(jar);
            shelf.jars = jar + 1;
            return true;
        }

        private boolean takeNumber(int least, int most) {
            return tape.takeNumber(least, most, DIGITS);
        }

        private boolean takeFreePlace(int jar) {
            if (!tape.isNumber(0, PLACES - 1, DIGITS)) {
                return false;
            }
            if (moment.jarOn(tape.value, jar) != NONE) {
                return false;
            }
            moment.places[jar] = tape.value;
            tape.step();
            return true;
        }

        private boolean takeViews(int jar) {
            if (!tape.isFigures(MATTERS)) {
                return false;
            }
            for (int matter = 0; matter < MATTERS; matter++) {
                shelf.setView(jar, matter, tape.figure(matter));
            }
            tape.step();
            return true;
        }

        private boolean readNeed() {
            int need = shelf.needs;
            tape.step();
            if (!takeNumber(moment.year, 9999)) {
                return false;
            }
            shelf.needYears[need] = tape.taken;
            if (!takeNumber(0, MATTERS - 1)) {
                return false;
            }
            shelf.needMatters[need] = tape.taken;
            if (!takeNumber(1, 9)) {
                return false;
            }
            shelf.needLows[need] = tape.taken;
            shelf.needs = need + 1;
            return true;
        }

        private boolean readLight() {
            if (!takeNumber(0, PLACES - 1)) {
                return false;
            }
            int place = tape.taken;
            if (!takeNumber(0, 9)) {
                return false;
            }
            shelf.lights[place] = tape.taken;
            return true;
        }

        private boolean readQuota() {
            boolean right = takeNumber(1, 90);
            shelf.quota = tape.taken;
            return right;
        }

        private boolean readPeel() {
            boolean right = takeNumber(0, 100);
            shelf.peel = tape.taken;
            return right;
        }

        private boolean readWasps() {
            boolean right = takeNumber(0, 100);
            shelf.wasps = tape.taken;
            return right;
        }
    }

    /** Reads a text of THE LAW into a draft, so that of a wrong one nothing stays. */
    private static final class LawReader {
        private static final int DIGITS = 3;
        private static final int DEEPEST = 6;

        private final Tape tape;
        private final Law law;

        LawReader(Tape tape, Law law) {
            this.tape = tape;
            this.law = law;
        }

        /** If it is wrong, the tape stands at the first thing that is. */
        boolean readText() {
            law.clear();
            tape.start();
            if (tape.isAtEnd()) {
                return true;
            }
            for (int line = 0; line < Law.MOST_LINES; line++) {
                if (!readLine()) {
                    return false;
                }
                if (tape.isAtEnd()) {
                    return true;
                }
                if (!tape.takeSign(';')) {
                    return false;
                }
            }
            return false;
        }

        private boolean readLine() {
            int kind = takeKind();
            if (kind == NONE) {
                return false;
            }
            int amount = 0;
            if (kind != Law.POP) {
                if (!tape.takeNumber(0, 99, DIGITS)) {
                    return false;
                }
                amount = tape.taken;
            }
            if (tape.takeWord("if") && !readAny(0)) {
                return false;
            }
            law.addLine(kind, amount);
            return true;
        }

        private int takeKind() {
            if (tape.takeWord("add")) {
                return Law.ADD;
            }
            if (tape.takeWord("less")) {
                return Law.LESS;
            }
            if (tape.takeWord("sour")) {
                return Law.SOUR;
            }
            return tape.takeWord("pop") ? Law.POP : NONE;
        }

        private boolean readAny(int depth) {
            for (int all = 0; all < MOST_BYTES; all++) {
                for (int atom = 0; atom == 0 || atom < MOST_BYTES && tape.takeWord("and"); atom++) {
                    if (!readAtom(depth)) {
                        return false;
                    }
                    if (atom > 0) {
                        law.addStep(Law.AND);
                    }
                }
                if (all > 0) {
                    law.addStep(Law.OR);
                }
                if (!tape.takeWord("or")) {
                    return true;
                }
            }
            return false;
        }

        private boolean readAtom(int depth) {
            if (tape.isWord("not") || tape.isSign('(')) {
                return depth < DEEPEST && readDeeper(depth + 1);
            }
            int liquid = tape.takeLiquid();
            if (liquid != NONE) {
                law.addStep(Law.LIQUID + liquid);
                return true;
            }
            if (tape.takeWord("open")) {
                law.addStep(Law.OPEN);
                return true;
            }
            if (!readSum()) {
                return false;
            }
            boolean below = tape.isSign('<');
            if (!below && !tape.isSign('>')) {
                return false;
            }
            tape.step();
            law.addStep(Law.LEFT_IS_SUMMED);
            if (!readSum()) {
                return false;
            }
            law.addStep(below ? Law.BELOW : Law.ABOVE);
            return true;
        }

        private boolean readDeeper(int depth) {
            if (tape.takeSign('(')) {
                return readAny(depth) && tape.takeSign(')');
            }
            tape.step();
            if (!readAtom(depth)) {
                return false;
            }
            law.addStep(Law.NOT);
            return true;
        }

        private boolean readSum() {
            for (int part = 0; part == 0 || part < MOST_BYTES && tape.takeSign('+'); part++) {
                if (tape.takeNumber(0, 999, DIGITS)) {
                    law.addStep(tape.taken);
                } else {
                    int word = partThere();
                    if (word == NONE) {
                        return false;
                    }
                    law.addStep(Law.PART + word);
                    tape.step();
                }
            }
            return true;
        }

        private int partThere() {
            if (tape.isWord("jar")) {
                return 0;
            }
            if (tape.isWord("matter")) {
                return 1;
            }
            if (tape.isWord("view")) {
                return 2;
            }
            if (tape.isWord("sour")) {
                return 3;
            }
            if (tape.isWord("spoons")) {
                return 4;
            }
            if (tape.isWord("place")) {
                return 5;
            }
            return tape.isWord("year") ? 6 : NONE;
        }
    }

    /** THE LOG: which of its rows count is told by a moment, so that an act undone takes its row. */
    private static final class LogBook {
        static final int WIDTH = 5;
        private static final int SHOWN = 60;
        /** Rows that have gone out of THE LOG come back when as many acts are undone. */
        private static final int ROWS = SHOWN + MOST_ACTS;

        private final int[] cells = new int[ROWS * WIDTH];

        void become(LogBook other) {
            System.arraycopy(other.cells, 0, cells, 0, ROWS * WIDTH);
        }

        void enter(Moment now, int jar, int other, int matter, int told) {
            int row = now.logHead * WIDTH;
            cells[row] = now.year;
            cells[row + 1] = jar;
            cells[row + 2] = other;
            cells[row + 3] = matter;
            cells[row + 4] = told;
            now.logHead = (now.logHead + 1) % ROWS;
            now.logRows = Math.min(SHOWN, now.logRows + 1);
        }

        boolean hasRow(Moment now, int ago) {
            return ago >= 0 && ago < now.logRows;
        }

        int cell(Moment now, int ago, int what) {
            return cells[Math.floorMod(now.logHead - 1 - ago, ROWS) * WIDTH + what];
        }

        int timesAsked(Moment now, int jar) {
            int times = 0;
            for (int ago = 0; ago < now.logRows; ago++) {
                if (cell(now, ago, 1) == jar || cell(now, ago, 2) == jar) {
                    times++;
                }
            }
            return times;
        }

        int askedMost(Moment now, int jars) {
            int found = NONE;
            int most = 0;
            for (int jar = 0; jar < jars; jar++) {
                int times = timesAsked(now, jar);
                if (times > most) {
                    found = jar;
                    most = times;
                }
            }
            return found;
        }

        int latestOf(Moment now, int matter) {
            for (int ago = 0; ago < now.logRows; ago++) {
                if (cell(now, ago, 3) == matter) {
                    return cell(now, ago, 1);
                }
            }
            return NONE;
        }
    }

    /** The moments ahead of the latest acts, that these may be undone. */
    private static final class History {
        private final Moment[] moments = new Moment[MOST_ACTS];
        private int head = 0;
        int size = 0;

        History() {
            for (int i = 0; i < MOST_ACTS; i++) {
                moments[i] = new Moment();
            }
        }

        void remember(Moment now) {
            moments[head].become(now);
            head = (head + 1) % MOST_ACTS;
            size = Math.min(MOST_ACTS, size + 1);
        }

        boolean giveBack(Moment now) {
            if (size == 0) {
                return false;
            }
            head = (head + MOST_ACTS - 1) % MOST_ACTS;
            size--;
            now.become(moments[head]);
            return true;
        }

        void forget() {
            size = 0;
        }
    }

    /** What the jars, as they are now, advise together, and what their seals can do. */
    private static final class Council {
        private static final int CLASH_APART = 5;
        private static final int WORSE_OFF = -3;
        private static final int LOST_BY_BOTH = 5;
        private static final int MOST_SEALS = 9 * MOST_JARS;

        private final Shelf shelf;
        private final Moment now;
        private final Law law;
        private final int[] advices = new int[MOST_JARS * MATTERS];
        private final int[] clashes = new int[MOST_JARS];
        private final int[] waysToSum = new int[MOST_SEALS + 1];

        Council(Shelf shelf, Moment now, Law law) {
            this.shelf = shelf;
            this.now = now;
            this.law = law;
        }

        int adviceOf(int jar, int matter) {
            return law.adviceOf(shelf, now, jar, matter);
        }

        private void hear(int matter) {
            for (int jar = 0; jar < shelf.jars; jar++) {
                advices[jar * MATTERS + matter] = adviceOf(jar, matter);
            }
        }

        private void hearAll() {
            for (int matter = 0; matter < MATTERS; matter++) {
                hear(matter);
            }
        }

        private int heard(int jar, int matter) {
            return advices[jar * MATTERS + matter];
        }

        private static boolean isIn(int set, int jar) {
            return (set >> jar & 1) == 1;
        }

        private static int mixed(int one, int other) {
            return Math.abs(one - other) >= CLASH_APART ? 0 : (one + other) / 2;
        }

        int mixtureOf(int jar, int other, int matter) {
            return mixed(adviceOf(jar, matter), adviceOf(other, matter));
        }

        int bestMixOf(int matter, int number) {
            hear(matter);
            int found = NONE;
            int nearest = MOST_ADVICE + 1;
            for (int jar = 0; jar < shelf.jars; jar++) {
                for (int other = jar + 1; other < shelf.jars; other++) {
                    int mixture = mixed(heard(jar, matter), heard(other, matter));
                    int apart = Math.abs(mixture - number);
                    if (apart < nearest) {
                        nearest = apart;
                        found = 10 * jar + other;
                    }
                }
            }
            return found;
        }

        int clashesWith(int jar) {
            hearAll();
            return heardClashes(jar);
        }

        private int heardClashes(int jar) {
            int found = 0;
            for (int other = 0; other < shelf.jars; other++) {
                found |= doClash(jar, other) ? 1 << other : 0;
            }
            return found;
        }

        private boolean doClash(int jar, int other) {
            for (int matter = 0; matter < MATTERS; matter++) {
                if (Math.abs(heard(jar, matter) - heard(other, matter)) >= CLASH_APART) {
                    return true;
                }
            }
            return false;
        }

        int alikeTo(int jar) {
            hearAll();
            int found = 0;
            for (int other = 0; other < shelf.jars; other++) {
                found |= other != jar && areAlike(jar, other) ? 1 << other : 0;
            }
            return found;
        }

        private boolean areAlike(int jar, int other) {
            for (int matter = 0; matter < MATTERS; matter++) {
                if (heard(jar, matter) != heard(other, matter)) {
                    return false;
                }
            }
            return true;
        }

        int largestCoalition() {
            hearAll();
            for (int jar = 0; jar < shelf.jars; jar++) {
                clashes[jar] = heardClashes(jar);
            }
            int found = 0;
            int most = 0;
            int every = shelf.everyJar();
            for (int set = 1; set <= every; set++) {
                int size = Integer.bitCount(set);
                if (size > most && isPeaceful(set)) {
                    found = set;
                    most = size;
                }
            }
            return found;
        }

        private boolean isPeaceful(int set) {
            for (int jar = 0; jar < shelf.jars; jar++) {
                if (isIn(set, jar) && (clashes[jar] & set) != 0) {
                    return false;
                }
            }
            return true;
        }

        int agreedBy(int set) {
            hearAll();
            int found = 0;
            for (int matter = 0; matter < MATTERS; matter++) {
                found |= areAtOne(set, matter) ? 1 << matter : 0;
            }
            return found;
        }

        private boolean areAtOne(int set, int matter) {
            int told = NONE;
            for (int jar = 0; jar < shelf.jars; jar++) {
                if (isIn(set, jar)) {
                    if (told != NONE && heard(jar, matter) != told) {
                        return false;
                    }
                    told = heard(jar, matter);
                }
            }
            return true;
        }

        int fewestThatCover(int number) {
            hearAll();
            int found = NONE;
            int fewest = MOST_JARS + 1;
            int every = shelf.everyJar();
            for (int set = 1; set <= every; set++) {
                int size = Integer.bitCount(set);
                if (size < fewest && doCover(set, number)) {
                    found = set;
                    fewest = size;
                }
            }
            return found;
        }

        private boolean doCover(int set, int number) {
            for (int matter = 0; matter < MATTERS; matter++) {
                if (greatestOf(set, matter) < number) {
                    return false;
                }
            }
            return true;
        }

        private int greatestOf(int set, int matter) {
            int greatest = NONE;
            for (int jar = 0; jar < shelf.jars; jar++) {
                if (isIn(set, jar)) {
                    greatest = Math.max(greatest, heard(jar, matter));
                }
            }
            return greatest;
        }

        int thatTasteSo(Tape tape, int mostOthers) {
            hearAll();
            int found = 0;
            for (int jar = 0; jar < shelf.jars; jar++) {
                found |= othersOnTape(tape, jar) <= mostOthers ? 1 << jar : 0;
            }
            return found;
        }

        private int othersOnTape(Tape tape, int jar) {
            int others = 0;
            for (int at = 0; at < tape.size; at += 2) {
                int matter = tape.byteAt(at);
                if (matter >= 0 && matter < MATTERS && heard(jar, matter) != tape.byteAt(at + 1)) {
                    others++;
                }
            }
            return others;
        }

        int nextTasteAmong(int set) {
            if (Integer.bitCount(set) < 2) {
                return NONE;
            }
            hearAll();
            int found = NONE;
            int fewest = MOST_JARS + 1;
            for (int matter = 0; matter < MATTERS; matter++) {
                int most = mostAtOne(set, matter);
                if (most < fewest) {
                    fewest = most;
                    found = matter;
                }
            }
            return found;
        }

        private int mostAtOne(int set, int matter) {
            int most = 0;
            for (int told = 0; told <= MOST_ADVICE; told++) {
                int jars = 0;
                for (int jar = 0; jar < shelf.jars; jar++) {
                    jars += isIn(set, jar) && heard(jar, matter) == told ? 1 : 0;
                }
                most = Math.max(most, jars);
            }
            return most;
        }

        int restsOfWar(int jar, int other, int matter) {
            int first = adviceOf(jar, matter);
            int second = adviceOf(other, matter);
            int rests = 0;
            for (int pair = 0; pair < 4; pair++) {
                boolean firstOpens = (pair & 1) == 1;
                boolean secondOpens = (pair & 2) == 2;
                boolean rest = isContent(first, firstOpens, secondOpens)
                        && isContent(second, secondOpens, firstOpens);
                rests |= rest ? 1 << pair : 0;
            }
            return rests;
        }

        private static boolean isContent(int advice, boolean opens, boolean otherOpens) {
            return gain(advice, opens, otherOpens) >= gain(advice, !opens, otherOpens);
        }

        private static int gain(int advice, boolean opens, boolean otherOpens) {
            if (opens) {
                return otherOpens ? advice - LOST_BY_BOTH : advice;
            }
            return otherOpens ? WORSE_OFF : 0;
        }

        boolean isWinning(int set) {
            return shelf.sealsOf(set) >= shelf.quota;
        }

        /** Counted by sums of seals: the sets of the others are many, their sums few. */
        int powerOf(int jar) {
            countSumsWithout(jar);
            int power = 0;
            int least = Math.max(0, shelf.quota - shelf.seals[jar]);
            for (int sum = least; sum < shelf.quota && sum <= MOST_SEALS; sum++) {
                power += waysToSum[sum];
            }
            return power;
        }

        private void countSumsWithout(int jar) {
            for (int sum = 0; sum <= MOST_SEALS; sum++) {
                waysToSum[sum] = 0;
            }
            waysToSum[0] = 1;
            for (int other = 0; other < shelf.jars; other++) {
                int seal = shelf.seals[other];
                for (int sum = MOST_SEALS; other != jar && sum >= seal; sum--) {
                    waysToSum[sum] += waysToSum[sum - seal];
                }
            }
        }

        int powerless() {
            int found = 0;
            for (int jar = 0; jar < shelf.jars; jar++) {
                found |= powerOf(jar) == 0 ? 1 << jar : 0;
            }
            return found;
        }

        int fewestWinning() {
            int found = NONE;
            int fewest = MOST_JARS + 1;
            int every = shelf.everyJar();
            for (int set = 1; set <= every; set++) {
                int size = Integer.bitCount(set);
                if (size < fewest && isWinning(set)) {
                    found = set;
                    fewest = size;
                }
            }
            return found;
        }

        int cheapestWinning() {
            int found = NONE;
            int least = MOST_SEALS + 1;
            int every = shelf.everyJar();
            for (int set = 1; set <= every; set++) {
                int sum = shelf.sealsOf(set);
                if (sum >= shelf.quota && sum < least) {
                    found = set;
                    least = sum;
                }
            }
            return found;
        }
    }

    /** Light and weight on the places of the shelf. */
    private static final class Rack {
        private static final int FALLING = 3;

        private final Shelf shelf;
        private final Moment now;
        private final int[] fullestFirst = new int[MOST_JARS];
        private final int[] darkestFirst = new int[PLACES];

        Rack(Shelf shelf, Moment now) {
            this.shelf = shelf;
            this.now = now;
        }

        private int harmOn(int place, int jar) {
            return shelf.lights[place] * now.spoons[jar];
        }

        int harmNow() {
            int sum = 0;
            for (int jar = 0; jar < shelf.jars; jar++) {
                sum += harmOn(now.places[jar], jar);
            }
            return sum;
        }

        int leastHarm() {
            sortBoth();
            return leastHarmFrom(0, 0);
        }

        int arrangedPlaceOf(int jar) {
            sortBoth();
            int due = leastHarmFrom(0, 0);
            int taken = 0;
            int place = NONE;
            for (int placed = 0; placed <= jar; placed++) {
                place = firstPlaceFor(placed, taken, due);
                if (place == NONE) {
                    return NONE;
                }
                due -= harmOn(place, placed);
                taken |= 1 << place;
            }
            return place;
        }

        private int firstPlaceFor(int jar, int taken, int due) {
            for (int place = 0; place < PLACES; place++) {
                int own = 1 << place;
                if ((taken & own) == 0
                        && harmOn(place, jar) + leastHarmFrom(jar + 1, taken | own) == due) {
                    return place;
                }
            }
            return NONE;
        }

        /** The fullest jar on the darkest place, and so on, does the least harm. */
        private int leastHarmFrom(int first, int taken) {
            int sum = 0;
            int dark = 0;
            for (int full = 0; full < shelf.jars; full++) {
                int jar = fullestFirst[full];
                if (jar >= first) {
                    while (dark < PLACES && (taken >> darkestFirst[dark] & 1) == 1) {
                        dark++;
                    }
                    if (dark < PLACES) {
                        sum += harmOn(darkestFirst[dark], jar);
                        dark++;
                    }
                }
            }
            return sum;
        }

        private void sortBoth() {
            for (int jar = 0; jar < shelf.jars; jar++) {
                int at = jar;
                while (at > 0 && now.spoons[fullestFirst[at - 1]] < now.spoons[jar]) {
                    fullestFirst[at] = fullestFirst[at - 1];
                    at--;
                }
                fullestFirst[at] = jar;
            }
            for (int place = 0; place < PLACES; place++) {
                int at = place;
                while (at > 0 && shelf.lights[darkestFirst[at - 1]] > shelf.lights[place]) {
                    darkestFirst[at] = darkestFirst[at - 1];
                    at--;
                }
                darkestFirst[at] = place;
            }
        }

        int fallsFrom(int place) {
            int sum = 0;
            for (int jar = 0; jar < shelf.jars; jar++) {
                int behind = now.places[jar] - place;
                sum += behind >= 0 && behind < FALLING ? now.spoons[jar] : 0;
            }
            return sum;
        }

        int worstPlace() {
            int worst = 0;
            int most = fallsFrom(0);
            for (int place = 1; place < PLACES; place++) {
                int falls = fallsFrom(place);
                if (falls > most) {
                    worst = place;
                    most = falls;
                }
            }
            return worst;
        }
    }

    /** Years that go on, for good or in a moment to look at, and needs that are met by then. */
    private static final class Foresight {
        private static final int POPPING_SOURS = 10;
        private static final int SEEDS = 6;

        private final Shelf shelf;
        private final Moment now;
        private final Law law;
        private final Moment then;
        private final int[] answers = new int[MOST_NEEDS];
        private final int[] answerers = new int[MOST_NEEDS];
        private final int[] spoonsPlanned = new int[MOST_JARS];
        private int triedJars = 0;

        Foresight(Shelf shelf, Moment now, Law law, Moment then) {
            this.shelf = shelf;
            this.now = now;
            this.law = law;
            this.then = then;
        }

        private void goOn(Moment moment) {
            for (int jar = 0; jar < shelf.jars; jar++) {
                if (moment.spoons[jar] > 0 && law.makesPop(shelf, moment, jar)) {
                    pop(moment, jar);
                } else {
                    moment.sourMore(jar, law.soursBy(shelf, moment, jar));
                }
            }
        }

        private void pop(Moment moment, int jar) {
            moment.spoons[jar] = 0;
            moment.elections++;
            for (int other = 0; other < shelf.jars; other++) {
                if (Math.abs(moment.places[other] - moment.places[jar]) == 1) {
                    moment.sourMore(other, POPPING_SOURS);
                }
            }
        }

        void passYears(Moment moment, int n) {
            for (int i = 0; i < n; i++) {
                goOn(moment);
                peelLabel(moment);
                feedWasps(moment);
                moment.year++;
            }
        }

        private void peelLabel(Moment moment) {
            boolean peels = moment.draw() % 100 < shelf.peel;
            if (peels && shelf.jars > 0) {
                moment.labels[moment.draw() % shelf.jars] = NONE;
            }
        }

        private void feedWasps(Moment moment) {
            boolean come = moment.draw() % 100 < shelf.wasps;
            if (come && shelf.jars > 0) {
                int jar = moment.draw() % shelf.jars;
                if (moment.isOpen(jar) && moment.spoons[jar] > 0) {
                    moment.spoons[jar]--;
                }
            }
        }

        /** SPOONS of all behind the trial; the moment to look at is as it would be by then. */
        int trySeed(int n, int seed) {
            then.become(now);
            then.seed = seed;
            passYears(then, n);
            return then.spoonsOfAll(shelf.jars);
        }

        int spanOfTrials(int n, boolean most) {
            int found = trySeed(n, 1);
            for (int seed = 2; seed <= SEEDS; seed++) {
                int spoons = trySeed(n, seed);
                found = most ? Math.max(found, spoons) : Math.min(found, spoons);
            }
            return found;
        }

        void lookAhead(int n) {
            lookAtNow();
            for (int i = 0; i < n; i++) {
                lookOn();
            }
        }

        private void lookAtNow() {
            then.become(now);
        }

        private void lookOn() {
            goOn(then);
            then.year++;
        }

        int adviceThen(int jar, int matter) {
            return law.adviceOf(shelf, then, jar, matter);
        }

        int firstBelow(int jar, int matter, int number) {
            lookAtNow();
            for (int n = 0; n <= FARTHEST; n++) {
                if (adviceThen(jar, matter) < number) {
                    return n;
                }
                lookOn();
            }
            return NONE;
        }

        int ripest(int jar, int matter, boolean much) {
            lookAtNow();
            int greatest = NONE;
            int first = 0;
            for (int n = 0; n <= FARTHEST; n++) {
                int told = adviceThen(jar, matter);
                if (told > greatest) {
                    greatest = told;
                    first = n;
                }
                lookOn();
            }
            return much ? greatest : first;
        }

        int firstPopped(int jar) {
            lookAtNow();
            if (then.spoons[jar] <= 0) {
                return NONE;
            }
            for (int n = 1; n <= FARTHEST; n++) {
                lookOn();
                if (then.spoons[jar] <= 0) {
                    return n;
                }
            }
            return NONE;
        }

        int answersTo(int need) {
            findAnswers();
            return answers[need];
        }

        int firstUnmet() {
            findAnswers();
            for (int need = 0; need < shelf.needs; need++) {
                if (answers[need] == 0) {
                    return need;
                }
            }
            return NONE;
        }

        private void findAnswers() {
            int farthest = farthestNeed();
            for (int need = 0; need < shelf.needs; need++) {
                answers[need] = 0;
            }
            lookAtNow();
            for (int n = 0; n <= farthest; n++) {
                for (int need = 0; need < shelf.needs; need++) {
                    if (shelf.needYears[need] == then.year) {
                        answers[need] = answersThen(need);
                    }
                }
                lookOn();
            }
        }

        private int farthestNeed() {
            int farthest = NONE;
            for (int need = 0; need < shelf.needs; need++) {
                int n = shelf.needYears[need] - now.year;
                if (n <= FARTHEST) {
                    farthest = Math.max(farthest, n);
                }
            }
            return farthest;
        }

        private int answersThen(int need) {
            int found = 0;
            for (int jar = 0; jar < shelf.jars; jar++) {
                boolean can = then.spoons[jar] > 0
                        && adviceThen(jar, shelf.needMatters[need]) >= shelf.needLows[need];
                found |= can ? 1 << jar : 0;
            }
            return found;
        }

        /**
         * Needs are taken in their order, each if it can be met beside those taken ahead of it:
         * that gives the most of them, and of such sets the least as bits.
         */
        int mostMet() {
            findAnswers();
            for (int need = 0; need < shelf.needs; need++) {
                answerers[need] = NONE;
            }
            for (int jar = 0; jar < shelf.jars; jar++) {
                spoonsPlanned[jar] = 0;
            }
            int met = 0;
            for (int need = 0; need < shelf.needs; need++) {
                triedJars = 0;
                met |= findAnswerer(need, 0) ? 1 << need : 0;
            }
            return met;
        }

        /** Every depth tries a jar that no other one has: there are no more depths than jars. */
        private boolean findAnswerer(int need, int depth) {
            if (depth > MOST_JARS) {
                return false;
            }
            for (int jar = 0; jar < shelf.jars; jar++) {
                int own = 1 << jar;
                if ((answers[need] & own) != 0 && (triedJars & own) == 0) {
                    triedJars |= own;
                    if (makeRoom(jar, depth)) {
                        answerers[need] = jar;
                        return true;
                    }
                }
            }
            return false;
        }

        private boolean makeRoom(int jar, int depth) {
            if (spoonsPlanned[jar] < now.spoons[jar]) {
                spoonsPlanned[jar]++;
                return true;
            }
            for (int need = 0; need < shelf.needs; need++) {
                if (answerers[need] == jar && findAnswerer(need, depth + 1)) {
                    return true;
                }
            }
            return false;
        }
    }
}

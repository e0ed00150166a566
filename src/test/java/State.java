/** What can be told of an object, as a text: two objects with the same text are in the same state. */
final class State {
    private State() {
    }

    /** What the questions say; the object is as before. THE LOG by its latest and its oldest row. */
    static String of(JarCabinet x) {
        StringBuilder s = new StringBuilder("counts");
        for (int what = 0; what < 14; what++) {
            s.append(' ').append(x.count(what));
        }
        int jars = x.count(0);
        int needs = x.count(1);
        int rows = x.count(12);
        for (int jar = 0; jar < jars; jar++) {
            s.append(" jar");
            for (int what = 0; what < 7; what++) {
                s.append(' ').append(x.jar(jar, what));
            }
            s.append(" advice ").append(x.advice(jar, 0, true)).append(x.advice(jar, 5, true));
        }
        s.append(" light");
        for (int place = 0; place < 12; place++) {
            s.append(' ').append(x.light(place));
        }
        for (int need = 0; need < needs; need++) {
            s.append(" need ").append(x.need(need, 0)).append(x.need(need, 1)).append(x.need(need, 2));
        }
        for (int what = 0; what < 5; what++) {
            s.append(" log ").append(x.log(0, what)).append(' ').append(x.log(rows - 1, what));
        }
        int seed = x.seed(0);
        x.seed(seed);
        return s.append(" seed ").append(seed).toString();
    }

    /** All of it: also the TAPE, what undone acts give back, and THE IMAGE. The object is used up by it. */
    static String allOf(JarCabinet x) {
        StringBuilder s = new StringBuilder(of(x)).append(" fault ").append(x.fault());
        int blanks = 0x20202020;
        s.append(" tape ").append(x.feed(blanks, blanks, blanks, blanks, blanks));
        for (int acts = 0; acts < 13 && x.undo(); acts++) {
            s.append("\n undone ").append(of(x));
        }
        if (x.back()) {
            s.append("\n image ").append(of(x));
        }
        s.append("\n text ").append(Check.said(x::cabinet)).append(" fault ").append(x.fault());
        return s.append(" quota ").append(x.count(5)).append(" peel ").append(x.count(6)).toString();
    }
}

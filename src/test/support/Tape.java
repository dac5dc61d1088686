/** Texts brought onto the tape of a TypeChain. */
final class Tape {
    private Tape() {
    }

    /** Eight signs of a text from a place on, the first highest; blanks behind its end. */
    static long eight(String s, int from) {
        long v = 0;
        for (int i = from; i < from + 8; i++) v = v << 8 | (i < s.length() ? s.charAt(i) & 255 : ' ');
        return v;
    }

    /** The tape holds just this text. */
    static void load(TypeChain x, String s) {
        x.end(0);
        for (int i = 0; i < s.length(); i += 8) x.feed(eight(s, i));
        x.end(s.length());
    }

    static int tell(TypeChain x, String s) {
        load(x, s);
        return x.text();
    }

    /** A new object that has taken a text which has no fault. */
    static TypeChain told(String s) {
        TypeChain x = new TypeChain();
        int lines = tell(x, s);
        if (lines < 0) throw new IllegalStateException("fault " + x.fault() + " (" + lines + ") in the text " + s);
        return x;
    }
}

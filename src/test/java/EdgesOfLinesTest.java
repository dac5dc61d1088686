/** Promises 13 to 20: each boundary case of the line, of its strikes, and of what it shows. */
public final class EdgesOfLinesTest {
    private static final int BAD = Edge.BAD, STATE = Edge.STATE, NONE = Edge.NONE;
    private static final int LEAST = Edge.LEAST, GREATEST = Edge.GREATEST;

    private EdgesOfLinesTest() {
    }

    /** a faces all columns at ticks 0, 4, 8, .. and b at 2, 6, 10, ..: whoever waits on waits 4 ticks. */
    private static TypeChain crowd(int columns, int power, int letters) {
        TypeChain x = Tape.told("chain,ab;pitch 2;gap 4;columns " + columns + ";power " + power + ";");
        for (int c = 0; c < letters; c++) x.put(c, 1);
        return x;
    }

    /** a and c of the chain abca struck at tick 0, in columns 0 and 2. */
    private static TypeChain shown() {
        TypeChain x = Tape.told("chain,abca;pitch 2;gap 2;columns 4;");
        x.put(0, 1);
        x.put(2, 3);
        x.go();
        return x;
    }

    private static void putAndLine() {
        Edge.test(13, "A COLUMN of THE LINE becomes a letter (0 to 26): what it was. BAD.", () -> {
            TypeChain x = new TypeChain();
            Edge.due("put(0, 26)", x.put(0, 26), 0);
            Edge.due("put(0, 1)", x.put(0, 1), 26);
            Edge.due("put(0, 0)", x.put(0, 0), 1);
            Edge.due("put(0, 0) again", x.put(0, 0), 0);
            x.put(0, 5);
            for (int l : new int[] {LEAST, -4, -1, 27, 32, GREATEST}) Edge.due("put(0, " + l + ")", x.put(0, l), BAD);
            Edge.due("line(0) stays", x.line(0), 5);
        });
        Edge.test(13, "A COLUMN of THE LINE becomes a letter (0 to 26): what it was. BAD.", () -> {
            TypeChain x = Tape.told("columns 40;");
            Edge.due("put(39, 7)", x.put(39, 7), 0);
            Edge.due("put(38, 8)", x.put(38, 8), 0);
            Edge.due("put(39, 9)", x.put(39, 9), 7);
            for (int c : new int[] {LEAST, -1, 40, GREATEST}) Edge.due("put(" + c + ", 1) of 40", x.put(c, 1), BAD);
            Edge.due("count(0)", x.count(0), 2);
            TypeChain y = Tape.told("columns 1;");
            Edge.due("put(0, 3) of 1", y.put(0, 3), 0);
            Edge.due("put(1, 3) of 1", y.put(1, 3), BAD);
        });
        Edge.test(14, "The letter of a COLUMN of THE LINE. BAD.", () -> {
            TypeChain x = new TypeChain();
            x.put(0, 26);
            x.put(19, 1);
            Edge.due("line(0)", x.line(0), 26);
            Edge.due("line(1)", x.line(1), 0);
            Edge.due("line(19)", x.line(19), 1);
            for (int c : new int[] {LEAST, -1, 20, 39, GREATEST}) Edge.due("line(" + c + ")", x.line(c), BAD);
            Edge.due("line(39) of 40", Tape.told("columns 40;").line(39), 0);
            Edge.due("line(40) of 40", Tape.told("columns 40;").line(40), BAD);
        });
    }

    private static void ticks() {
        Edge.test(15, "with a POWER of h (1 to 40). BAD", () -> {
            TypeChain x = crowd(40, 3, 40);
            for (int h : new int[] {LEAST, -1, 0, 41, GREATEST}) Edge.due("ticks(" + h + ")", x.ticks(h), BAD);
            Edge.due("ticks(1)", x.ticks(1), 157);
            Edge.due("ticks(2)", x.ticks(2), 77);
            Edge.due("ticks(39)", x.ticks(39), 5);
            Edge.due("ticks(40)", x.ticks(40), 1);
        });
        Edge.test(15, "TICKS that THE LINE would take from now on", () -> {
            TypeChain x = crowd(3, 1, 3);
            Edge.due("ticks(3) from tick 0", x.ticks(3), 1);
            x.space(1);
            Edge.due("ticks(3) from tick 5: struck at 8", x.ticks(3), 4);
            Edge.due("ticks(1) from tick 5: struck at 8, 12, 16", x.ticks(1), 12);
            Edge.due("now(0) stays", x.now(0), 5);
            Edge.due("count(0) stays", x.count(0), 3);
            Edge.due("now(3) stays", x.now(3), 0);
            Edge.due("struck(0): none was struck", x.struck(0), STATE);
        });
        Edge.test(15, "TICKS that THE LINE would take from now on", () -> {
            TypeChain x = crowd(3, 1, 3);
            x.go();
            x.seen(0, 2);
            x.put(1, 1);
            Edge.due("ticks(1) from tick 9", x.ticks(1), 4);
            Edge.due("struck(0) stays", x.struck(0), 3);
            Edge.due("struck(12) stays", x.struck(12), 8);
            Edge.due("seen(0, 2) stays", x.seen(0, 2), 2);
        });
        Edge.test(15, "a LINE of BLANKS takes none", () -> {
            Edge.due("ticks(1)", new TypeChain().ticks(1), 0);
            Edge.due("ticks(40)", new TypeChain().ticks(40), 0);
        });
        Edge.test(15, "STATE: it can not be.", () -> {
            TypeChain x = crowd(40, 1, 39);
            x.put(39, 3);
            Edge.due("ticks(1) with a letter that the chain has not", x.ticks(1), STATE);
            Edge.due("ticks(40)", x.ticks(40), STATE);
            Edge.due("ticks(0): bad before state", x.ticks(0), BAD);
            Edge.due("ticks(41): bad before state", x.ticks(41), BAD);
            x.put(39, 2);
            Edge.due("ticks(40) with a letter that it has", x.ticks(40), 3);
        });
    }

    private static void go() {
        Edge.test(16, "TICK by TICK from now on", () -> {
            TypeChain x = crowd(5, 40, 1);
            Edge.due("go() at tick 0", x.go(), 1);
            Edge.due("struck(10)", x.struck(10), 0);
            x.put(0, 1);
            Edge.due("go() from tick 1: struck at 4", x.go(), 4);
            Edge.due("struck(10)", x.struck(10), 4);
            x.put(0, 2);
            Edge.due("go() from tick 5: struck at 6", x.go(), 2);
            Edge.due("now(0)", x.now(0), 7);
        });
        Edge.test(16, "COLUMNS by numbers", () -> {
            TypeChain x = crowd(3, 1, 3);
            x.go();
            for (int c = 0; c < 3; c++) Edge.due("struck(" + (10 + c) + ")", x.struck(10 + c), 4 * c);
            TypeChain y = crowd(40, 1, 40);
            y.go();
            Edge.due("struck(10)", y.struck(10), 0);
            Edge.due("struck(49)", y.struck(49), 156);
        });
        Edge.test(16, "and that was not struck yet is struck", () -> {
            TypeChain x = crowd(3, 1, 3);
            x.go();
            for (int c = 0; c < 3; c++) Edge.due("page(0, " + c + ", 1)", x.page(0, c, 1), 1);
        });
        Edge.test(16, "POWER of them at one TICK at most (the others wait on)", () -> {
            TypeChain x = crowd(5, 2, 5);
            Edge.due("go() of 5, 2 at a tick", x.go(), 9);
            int[] at = {0, 0, 4, 4, 8};
            for (int c = 0; c < 5; c++) Edge.due("struck(" + (10 + c) + ")", x.struck(10 + c), at[c]);
            Edge.due("go() of 5, 5 at a tick", crowd(5, 5, 5).go(), 1);
            Edge.due("go() of 5, 4 at a tick", crowd(5, 4, 5).go(), 5);
            Edge.due("go() of 40, 40 at a tick", crowd(40, 40, 40).go(), 1);
            Edge.due("go() of 40, 39 at a tick", crowd(40, 39, 40).go(), 5);
            Edge.due("go() of 40, 1 at a tick", crowd(40, 1, 40).go(), 157);
        });
        // who waits on is struck by any slug with its letter: here one comes each 2 ticks
        Edge.test(16, "(the others wait on)", () -> {
            TypeChain x = Tape.told("chain,aaab;pitch 2;gap 2;columns 2;power 1;");
            x.put(0, 1);
            x.put(1, 1);
            Edge.due("go()", x.go(), 3);
            Edge.due("struck(11)", x.struck(11), 2);
        });
        Edge.test(16, "until none is left; the TICK behind the last strike is now", () -> {
            TypeChain x = crowd(5, 2, 5);
            x.go();
            Edge.due("now(0)", x.now(0), 9);
            Edge.due("struck(14)", x.struck(14), 8);
        });
        Edge.test(16, "(BLANK ones are not struck; a LINE of BLANKS takes none.)", () -> {
            TypeChain x = crowd(3, 40, 1);
            x.put(2, 1);
            x.go();
            Edge.due("struck(11)", x.struck(11), NONE);
            Edge.due("page(0, 1, 0)", x.page(0, 1, 0), 0);
            Edge.due("page(0, 1, 1)", x.page(0, 1, 1), 0);
            Edge.due("go() of blanks", x.go(), 0);
            Edge.due("now(0)", x.now(0), 1);
            Edge.due("now(3)", x.now(3), 2);
            Edge.due("struck(0)", x.struck(0), 0);
        });
        Edge.test(16, "Then it is BLANK.", () -> {
            TypeChain x = crowd(40, 40, 40);
            x.go();
            for (int c = 0; c < 40; c++) Edge.due("line(" + c + ")", x.line(c), 0);
            Edge.due("count(0)", x.count(0), 0);
        });
        Edge.test(16, "It can not be, if THE CHAIN has not all its letters.", () -> {
            TypeChain x = crowd(40, 40, 39);
            x.put(39, 26);
            Edge.due("go()", x.go(), STATE);
            Edge.due("count(0)", x.count(0), 40);
            Edge.due("line(39)", x.line(39), 26);
            Edge.due("now(0)", x.now(0), 0);
            Edge.due("now(3)", x.now(3), 0);
            Edge.due("struck(0)", x.struck(0), STATE);
            x.put(39, 2);
            Edge.due("go() with a letter that the chain has", x.go(), 3);
        });
    }

    private static void struck() {
        String words = "Of the latest LINE that was STRUCK: 0 COLUMNS, 1 the most at one TICK, 2 COLUMNS that waited on for POWER "
            + "(once or more); 10 and c: the TICK at which COLUMN c was (NONE: not). BAD; STATE: none was.";
        Edge.test(17, words, () -> {
            TypeChain x = crowd(4, 40, 3);
            x.go();
            for (int what : new int[] {LEAST, -1, 3, 9, 14, 49, GREATEST}) Edge.due("struck(" + what + ")", x.struck(what), BAD);
            Edge.due("struck(0)", x.struck(0), 3);
            Edge.due("struck(2)", x.struck(2), 0);
            Edge.due("struck(10)", x.struck(10), 0);
            Edge.due("struck(13): not", x.struck(13), NONE);
            TypeChain y = crowd(40, 40, 40);
            y.go();
            Edge.due("struck(49) of 40", y.struck(49), 0);
            Edge.due("struck(50) of 40", y.struck(50), BAD);
        });
        Edge.test(17, "BAD; STATE: none was.", () -> {
            TypeChain x = new TypeChain();
            for (int what : new int[] {0, 1, 2, 10, 29}) Edge.due("struck(" + what + ")", x.struck(what), STATE);
            for (int what : new int[] {-1, 3, 9, 30}) Edge.due("struck(" + what + "): bad before state", x.struck(what), BAD);
            x.put(0, 26);
            x.go();
            Edge.due("struck(0) behind a go that was refused", x.struck(0), STATE);
        });
        Edge.test(17, "1 the most at one TICK", () -> {
            TypeChain x = crowd(5, 3, 5);
            x.go();
            Edge.due("struck(1) with a power of 3", x.struck(1), 3);
            TypeChain y = crowd(40, 40, 40);
            y.go();
            Edge.due("struck(1) of 40 at once", y.struck(1), 40);
            TypeChain z = crowd(5, 40, 2);
            for (int c = 2; c < 5; c++) z.put(c, 2);
            z.go();
            Edge.due("struck(1) of 2 and then 3", z.struck(1), 3);
            z.go();
            Edge.due("struck(1) of blanks", z.struck(1), 0);
        });
        Edge.test(17, "2 COLUMNS that waited on for POWER (once or more)", () -> {
            TypeChain x = crowd(3, 1, 3);
            x.go();
            Edge.due("struck(2): one waited once, one twice", x.struck(2), 2);
            TypeChain y = crowd(40, 1, 40);
            y.go();
            Edge.due("struck(2) of 40", y.struck(2), 39);
            TypeChain z = crowd(3, 2, 2);
            z.put(2, 2);
            z.go();
            Edge.due("struck(2): who waits for a letter waits not for power", z.struck(2), 0);
            TypeChain w = crowd(3, 3, 3);
            w.go();
            Edge.due("struck(2): just enough power", w.struck(2), 0);
        });
        Edge.test(17, "Of the latest LINE that was STRUCK", () -> {
            TypeChain x = crowd(3, 1, 3);
            x.go();
            x.put(1, 2);
            Edge.due("struck(0): the latest, not the line", x.struck(0), 3);
            x.go();
            Edge.due("struck(0)", x.struck(0), 1);
            Edge.due("struck(2)", x.struck(2), 0);
            Edge.due("struck(10)", x.struck(10), NONE);
            Edge.due("struck(11)", x.struck(11), 10);
            x.put(0, 26);
            x.go();
            Edge.due("struck(11) behind a go that was refused", x.struck(11), 10);
            x.put(0, 0);
            x.go();
            Edge.due("struck(0) of a line of blanks", x.struck(0), 0);
            Edge.due("struck(11) of a line of blanks", x.struck(11), NONE);
        });
    }

    private static void slipped() {
        Edge.test(18, "SLIPPED by k (0 to L less 1)", () -> {
            TypeChain x = shown();
            for (int k : new int[] {LEAST, -1, 4, 47, GREATEST}) Edge.due("slipped(" + k + ", 0)", x.slipped(k, 0), BAD);
            Edge.due("slipped(0, 0)", x.slipped(0, 0), 1);
            Edge.due("slipped(3, 0)", x.slipped(3, 0), 1);
            TypeChain y = Tape.told("chain," + "a".repeat(47) + "b;");
            y.put(0, 1);
            y.go();
            Edge.due("slipped(47, 0) of 48", y.slipped(47, 0), 2);
            Edge.due("slipped(48, 0) of 48", y.slipped(48, 0), BAD);
        });
        Edge.test(18, "the letter of the SLUG that is k behind the one that was meant (modulo L)", () -> {
            TypeChain x = shown();
            int[] first = {1, 2, 3, 1};
            int[] third = {3, 1, 1, 2};
            for (int k = 0; k < 4; k++) Edge.due("slipped(" + k + ", 0)", x.slipped(k, 0), first[k]);
            for (int k = 0; k < 4; k++) Edge.due("slipped(" + k + ", 2)", x.slipped(k, 2), third[k]);
            x.put(0, 1);
            x.go();
            Edge.due("struck(10): now by the last slug", x.struck(10), 6);
            int[] last = {1, 1, 2, 3};
            for (int k = 0; k < 4; k++) Edge.due("slipped(" + k + ", 0) from there", x.slipped(k, 0), last[k]);
        });
        Edge.test(18, "BAD; STATE: no LINE was STRUCK; NONE: that COLUMN was not struck.", () -> {
            TypeChain x = shown();
            Edge.due("slipped(0, 1)", x.slipped(0, 1), NONE);
            Edge.due("slipped(3, 3)", x.slipped(3, 3), NONE);
            for (int c : new int[] {LEAST, -1, 4, GREATEST}) Edge.due("slipped(0, " + c + ")", x.slipped(0, c), BAD);
            Edge.due("slipped(4, 1): bad before none", x.slipped(4, 1), BAD);
            TypeChain y = new TypeChain();
            Edge.due("slipped(0, 0)", y.slipped(0, 0), STATE);
            Edge.due("slipped(5, 19)", y.slipped(5, 19), STATE);
            Edge.due("slipped(6, 0): bad before state", y.slipped(6, 0), BAD);
            Edge.due("slipped(0, 20): bad before state", y.slipped(0, 20), BAD);
            y.go();
            Edge.due("slipped(0, 0) of a line of blanks", y.slipped(0, 0), NONE);
        });
    }

    private static void seen() {
        Edge.test(19, "What is SEEN in a COLUMN becomes a letter (1 to 26; NONE: not told): what was told (NONE).", () -> {
            TypeChain x = shown();
            Edge.due("seen(0, 26)", x.seen(0, 26), NONE);
            Edge.due("seen(0, 1)", x.seen(0, 1), 26);
            Edge.due("seen(0, NONE)", x.seen(0, NONE), 1);
            Edge.due("seen(0, NONE) again", x.seen(0, NONE), NONE);
            Edge.due("seen(2, 5): a letter that the chain has not", x.seen(2, 5), NONE);
            Edge.due("seen(0, 2): each column its own", x.seen(0, 2), NONE);
            for (int l : new int[] {LEAST, -10, -5, -3, -2, -1, 0, 27, GREATEST}) Edge.due("seen(0, " + l + ")", x.seen(0, l), -10);
            Edge.due("seen(0, 2) stays", x.seen(0, 2), 2);
        });
        Edge.test(19, "BAD -10; STATE -12: no LINE was STRUCK, or that COLUMN was not.", () -> {
            TypeChain x = shown();
            for (int c : new int[] {LEAST, -1, 4, GREATEST}) Edge.due("seen(" + c + ", 1)", x.seen(c, 1), -10);
            Edge.due("seen(1, 1)", x.seen(1, 1), -12);
            Edge.due("seen(3, NONE)", x.seen(3, NONE), -12);
            Edge.due("seen(1, 27): bad before state", x.seen(1, 27), -10);
            TypeChain y = new TypeChain();
            Edge.due("seen(0, 1) of no line", y.seen(0, 1), -12);
            Edge.due("seen(19, NONE) of no line", y.seen(19, NONE), -12);
            Edge.due("seen(20, 1) of no line: bad before state", y.seen(20, 1), -10);
            Edge.due("seen(0, 0) of no line: bad before state", y.seen(0, 0), -10);
            y.go();
            Edge.due("seen(0, 1) of a line of blanks", y.seen(0, 1), -12);
        });
        Edge.test(19, "(told by hand; none at first, none as another LINE is STRUCK)", () -> {
            TypeChain x = shown();
            x.seen(0, 2);
            x.seen(2, 2);
            x.put(0, 26);
            x.go();
            Edge.due("seen(2, 2) behind a go that was refused", x.seen(2, 2), 2);
            x.put(0, 1);
            x.go();
            Edge.due("seen(0, 2) behind another line", x.seen(0, 2), NONE);
            Edge.due("seen(2, 2): not struck in another line", x.seen(2, 2), -12);
            Edge.due("slips(0)", x.slips(0), 1);
            x.go();
            Edge.due("slips(0) behind a line of blanks", x.slips(0), 4);
        });
    }

    private static void slips() {
        String words = "SLIPS by which all that is SEEN shows so: how many (what 0), the least (1; NONE).";
        Edge.test(20, words, () -> {
            TypeChain x = shown();
            Edge.due("slips(0) of nothing seen: all", x.slips(0), 4);
            Edge.due("slips(1) of nothing seen", x.slips(1), 0);
            x.seen(0, 1);
            Edge.due("slips(0) of a: 0 and 3", x.slips(0), 2);
            Edge.due("slips(1) of a", x.slips(1), 0);
            x.seen(2, 1);
            Edge.due("slips(0) of a and a: 0, 3 and 1, 2", x.slips(0), 0);
            Edge.due("slips(1) of a and a", x.slips(1), NONE);
            x.seen(2, 2);
            Edge.due("slips(0) of a and b: 3", x.slips(0), 1);
            Edge.due("slips(1) of a and b", x.slips(1), 3);
            x.seen(0, NONE);
            x.seen(2, 1);
            Edge.due("slips(0) of a in column 2: 1 and 2", x.slips(0), 2);
            Edge.due("slips(1) of a in column 2: the least", x.slips(1), 1);
        });
        Edge.test(20, words, () -> {
            TypeChain x = shown();
            x.seen(2, 26);
            Edge.due("slips(0) of a letter that the chain has not", x.slips(0), 0);
            Edge.due("slips(1) of a letter that the chain has not", x.slips(1), NONE);
            TypeChain y = Tape.told("columns 40;");
            y.put(39, 1);
            y.go();
            y.seen(39, 6);
            Edge.due("slips(0) by the last column", y.slips(0), 1);
            Edge.due("slips(1): the most", y.slips(1), 5);
        });
        Edge.test(20, "BAD; STATE: no LINE was STRUCK.", () -> {
            TypeChain x = shown();
            for (int what : new int[] {LEAST, -1, 2, 10, GREATEST}) Edge.due("slips(" + what + ")", x.slips(what), BAD);
            TypeChain y = new TypeChain();
            Edge.due("slips(0) of no line", y.slips(0), STATE);
            Edge.due("slips(1) of no line", y.slips(1), STATE);
            Edge.due("slips(2) of no line: bad before state", y.slips(2), BAD);
            Edge.due("slips(-1) of no line: bad before state", y.slips(-1), BAD);
            y.go();
            Edge.due("slips(0) of a line of blanks", y.slips(0), 6);
            Edge.due("slips(1) of a line of blanks", y.slips(1), 0);
        });
    }

    public static void main(String[] args) {
        putAndLine();
        ticks();
        go();
        struck();
        slipped();
        seen();
        slips();
        Edge.finish();
    }
}

/** Promises 25 to 28: each boundary case of runs, of the best chain, and of the letter put on once more. */
public final class EdgesOfProgramsTest {
    private static final int BAD = Edge.BAD, STATE = Edge.STATE, NONE = Edge.NONE;
    private static final int LEAST = Edge.LEAST, GREATEST = Edge.GREATEST;

    private EdgesOfProgramsTest() {
    }

    /** With a gap of one pitch slug c faces column c at tick 0. */
    private static TypeChain even(String chain, String program) {
        return Tape.told("chain," + chain + ";pitch 2;gap 2;columns 8;" + program);
    }

    private static void bestIs(TypeChain x, int ticks, String letters) {
        Edge.due("best(0)", x.best(0), ticks);
        for (int i = 0; i < 6; i++) {
            int due = i < letters.length() ? letters.charAt(i) - 'a' + 1 : NONE;
            Edge.due("best(" + (10 + i) + ")", x.best(10 + i), due);
        }
    }

    private static void twiceIs(TypeChain x, int letter, int ticks, int fewer) {
        Edge.due("twice(0)", x.twice(0), letter);
        Edge.due("twice(1)", x.twice(1), ticks);
        Edge.due("twice(2)", x.twice(2), fewer);
    }

    private static void ranIs(TypeChain x, int ticks, int lines, int end) {
        Edge.due("ran(0)", x.ran(0), ticks);
        Edge.due("ran(1)", x.ran(1), lines);
        Edge.due("ran(2)", x.ran(2), end);
    }

    private static void run() {
        Edge.test(25, "RUN: how many ORDERS were done.", () -> {
            TypeChain x = new TypeChain();
            Edge.due("run() of none", x.run(), 0);
            ranIs(x, 0, 0, NONE);
            Edge.due("run() of one", Tape.told("go;").run(), 1);
            TypeChain y = Tape.told("go;".repeat(24));
            Edge.due("run() of 24", y.run(), 24);
            ranIs(y, 0, 24, NONE);
        });
        Edge.test(25, "it ends at one that can not be done (go: not all letters; skip: no HOLE)", () -> {
            TypeChain x = Tape.told("put,z 0;go;space 1;");
            Edge.due("run() that ends at a go", x.run(), 1);
            ranIs(x, 0, 0, 1);
            Edge.due("line(0): what was done stays", x.line(0), 26);
            Edge.due("now(1): what is behind is not done", x.now(1), 0);
            TypeChain y = Tape.told("skip 1;space 1;");
            Edge.due("run() that ends at its first order", y.run(), 0);
            ranIs(y, 0, 0, 0);
            Edge.due("now(1)", y.now(1), 0);
            TypeChain z = Tape.told("go;".repeat(23) + "skip 7;");
            Edge.due("run() that ends at its last order", z.run(), 23);
            ranIs(z, 0, 23, 23);
        });
        Edge.test(25, "RUN: from now on ORDER by ORDER", () -> {
            TypeChain x = Tape.told("start 0;step 1;rows 3;put,a 0;go;space 1;");
            x.space(2);
            Edge.due("run() from row 2 and tick 2", x.run(), 3);
            ranIs(x, 18, 1, NONE);
            Edge.due("now(0)", x.now(0), 20);
            Edge.due("now(1)", x.now(1), 0);
            Edge.due("now(2)", x.now(2), 2);
            Edge.due("run() again", x.run(), 3);
            ranIs(x, 18, 1, NONE);
            Edge.due("now(0)", x.now(0), 38);
            Edge.due("page(0, 0, 1)", x.page(0, 0, 1), 1);
        });
        // as far as the calls that an object is used for can bring the tick
        Edge.test(25, "RUN: from now on ORDER by ORDER", () -> {
            TypeChain x = Tape.told("start 20;step 20;rows 60;" + "skip 0;".repeat(24));
            for (int i = 0; i < 460; i++) x.run();
            ranIs(x, 24 * 1220, 0, NONE);
            Edge.due("now(0)", x.now(0), 460 * 24 * 1220);
            Edge.due("now(2)", x.now(2), 460 * 24 + 1);
            x.put(0, 1);
            Edge.due("go(): the chain is at slug 4489600 mod 6", x.go(), 7);
        });
        Edge.test(25, "put: the LETTERS into THE LINE from COLUMN N on.", () -> {
            TypeChain x = Tape.told("columns 40;put," + "f".repeat(40) + " 0;put,a 39;put,bc 0;");
            x.run();
            Edge.due("line(0)", x.line(0), 2);
            Edge.due("line(1)", x.line(1), 3);
            Edge.due("line(2)", x.line(2), 6);
            Edge.due("line(38)", x.line(38), 6);
            Edge.due("line(39)", x.line(39), 1);
            TypeChain y = Tape.told("put,a 1;go;");
            y.put(0, 2);
            y.put(1, 26);
            y.run();
            Edge.due("struck(0): the line by hand is struck too", y.struck(0), 2);
            TypeChain z = Tape.told("put,a 1;go;");
            z.put(0, 26);
            Edge.due("run() with a line by hand that can not be", z.run(), 1);
        });
        Edge.test(25, "space: 0 to 9 ROWS.", () -> {
            TypeChain x = Tape.told("space 0;");
            Edge.due("run() of space 0", x.run(), 1);
            ranIs(x, 0, 0, NONE);
            TypeChain y = Tape.told("rows 4;space 9;");
            y.run();
            ranIs(y, 21, 0, NONE);
            Edge.due("now(1)", y.now(1), 1);
            Edge.due("now(2)", y.now(2), 3);
        });
        Edge.test(25, "none as another LINE is STRUCK", () -> {
            TypeChain x = Tape.told("put,a 0;go;");
            x.run();
            x.seen(0, 2);
            x.run();
            Edge.due("seen(0, 1)", x.seen(0, 1), NONE);
        });
    }

    private static void ran() {
        Edge.test(26, "Of the latest RUN: 0 TICKS that it took, 1 LINES that were STRUCK, 2 the ORDER at which it ended", () -> {
            TypeChain x = Tape.told("put,b 0;go;skip 0;");
            x.run();
            ranIs(x, 31, 1, NONE);
            x.put(0, 2);
            x.go();
            x.space(1);
            ranIs(x, 31, 1, NONE);
            for (int what : new int[] {LEAST, -1, 3, 10, GREATEST}) Edge.due("ran(" + what + ")", x.ran(what), BAD);
            x.put(1, 26);
            x.run();
            ranIs(x, 0, 0, 1);
            x.put(1, 0);
            x.run();
            Edge.due("ran(2): the latest did all", x.ran(2), NONE);
        });
        Edge.test(26, "BAD; STATE: there was none since the text was told.", () -> {
            TypeChain x = new TypeChain();
            for (int what = 0; what < 3; what++) Edge.due("ran(" + what + ") of none", x.ran(what), STATE);
            Edge.due("ran(3) of none: bad before state", x.ran(3), BAD);
            Edge.due("ran(-1) of none: bad before state", x.ran(-1), BAD);
            x.go();
            x.space(1);
            Edge.due("ran(0): a go by hand is no run", x.ran(0), STATE);
            x.run();
            Edge.due("ran(0) of an empty program", x.ran(0), 0);
            Tape.tell(x, "oh");
            Edge.due("ran(0) behind a text that was refused", x.ran(0), 0);
            Tape.tell(x, "");
            for (int what = 0; what < 3; what++) Edge.due("ran(" + what + ") behind a text", x.ran(what), STATE);
        });
    }

    private static void best() {
        Edge.test(27, "for 2 to 6 SLUGS: of all orders of them that by which RUN", () -> {
            bestIs(even("ab", "put,ba 0;go;"), 1, "ba");
            bestIs(even("abcdef", "put,fedcba 0;go;"), 1, "fedcba");
            bestIs(even("fedcba", "put,abcdef 0;go;"), 1, "abcdef");
            bestIs(even("abb", "put,bab 0;go;"), 1, "bab");
            bestIs(even("zzzzzz", "put,zzzzzz 0;go;"), 1, "zzzzzz");
            bestIs(even("aazzaz", "put,zzzaaa 0;go;"), 1, "zzzaaa");
        });
        Edge.test(27, "of several the least row of letters", () -> {
            bestIs(even("fedcba", "go;"), 0, "abcdef");
            bestIs(even("zaz", "space 1;"), 5, "azz");
            bestIs(even("cba", "put,c 0;go;"), 1, "cab");
            bestIs(even("cba", "put,c 2;go;"), 1, "abc");
            bestIs(even("dcba", "put,d 1;go;"), 1, "adbc");
        });
        Edge.test(27, "10 and i: the letter of SLUG i (NONE: there is none). BAD (10 to 15)", () -> {
            TypeChain x = even("ab", "go;");
            for (int w : new int[] {LEAST, -1, 1, 2, 9, 16, 57, GREATEST}) Edge.due("best(" + w + ")", x.best(w), BAD);
            Edge.due("best(11)", x.best(11), 2);
            Edge.due("best(12)", x.best(12), NONE);
            Edge.due("best(15)", x.best(15), NONE);
            Edge.due("best(15) of 6", even("abcdef", "go;").best(15), 6);
            Edge.due("best(15) of 5", even("abcde", "go;").best(15), NONE);
            Edge.due("best(14) of 5", even("abcde", "go;").best(14), 5);
        });
        Edge.test(27, "STATE: more than 6 SLUGS, THE PROGRAM is empty, or can not all be done.", () -> {
            Edge.due("best(0) of 6 slugs", even("abcdef", "go;").best(0), 0);
            Edge.due("best(0) of 7 slugs", even("abcdefg", "go;").best(0), STATE);
            Edge.due("best(15) of 7 slugs", even("abcdefg", "go;").best(15), STATE);
            Edge.due("best(0) of 48 slugs", even("a".repeat(48), "go;").best(0), STATE);
            Edge.due("best(0) of no program", even("ab", "").best(0), STATE);
            Edge.due("best(0) with a letter that the chain has not", even("ab", "put,c 0;go;").best(0), STATE);
            Edge.due("best(12) with a letter that the chain has not", even("ab", "put,c 0;go;").best(12), STATE);
            Edge.due("best(0) with no hole", even("ab", "go;skip 1;").best(0), STATE);
            Edge.due("best(0) with a letter that is not struck", even("ab", "put,c 0;").best(0), 0);
            Edge.due("best(1) of no program: bad before state", even("ab", "").best(1), BAD);
            Edge.due("best(16) of 7 slugs: bad before state", even("abcdefg", "go;").best(16), BAD);
        });
        Edge.test(27, "(all as a text makes it, from TICK 0)", () -> {
            TypeChain x = even("ab", "put,ba 0;go;skip 0;");
            x.put(7, 26);
            x.space(3);
            bestIs(x, 28, "ba");
            x.put(7, 0);
            x.run();
            bestIs(x, 28, "ba");
            Edge.due("slug(0): the chain stays", x.slug(0), 1);
            Tape.tell(x, "oh");
            bestIs(x, 28, "ba");
            Tape.tell(x, "chain,cab;pitch 2;gap 2;put,bca 0;go;");
            bestIs(x, 1, "bca");
        });
    }

    private static void twice() {
        Edge.test(28, "DOUBLE: of all letters that, put on as one SLUG more behind the last one, by which RUN takes the fewest TICKS", () -> {
            twiceIs(even("ab", "put,abb 0;go;"), 2, 1, 2);
            twiceIs(even("ab", "put,abz 0;go;"), 26, 1, -1000004);
            twiceIs(even("yz", "put,yza 0;go;"), 1, 1, -1000004);
            twiceIs(even("abb", "put,b 3;go;"), 2, 1, 2);
        });
        Edge.test(28, "of several the least", () -> {
            twiceIs(even("yz", "go;"), 1, 0, 0);
            twiceIs(even("ab", "put,ab 0;go;put,ab 0;go;"), 1, 7, -2);
            twiceIs(even("ab", "put,b 0;go;"), 1, 3, 0);
        });
        Edge.test(28, "2; can be below 0", () -> {
            twiceIs(even("ab", "put,a 0;go;put,ab 0;go;"), 1, 7, -2);
            twiceIs(even("ab", "put,a 0;go;put,a 0;go;"), 1, 5, 0);
        });
        Edge.test(28, "BAD -1000000; STATE -1000002: 48 SLUGS, THE PROGRAM is empty, or it can not all be done with any", () -> {
            for (int w : new int[] {LEAST, -1, 3, 10, GREATEST}) Edge.due("twice(" + w + ")", even("ab", "go;").twice(w), -1000000);
            for (int w = 0; w < 3; w++) {
                Edge.due("twice(" + w + ") of 48 slugs", even("a".repeat(48), "go;").twice(w), -1000002);
                Edge.due("twice(" + w + ") of no program", even("ab", "").twice(w), -1000002);
                Edge.due("twice(" + w + ") with two letters missing", even("ab", "put,cd 0;go;").twice(w), -1000002);
                Edge.due("twice(" + w + ") with no hole", even("ab", "skip 1;").twice(w), -1000002);
            }
            Edge.due("twice(3) of 48 slugs: bad before state", even("a".repeat(48), "go;").twice(3), -1000000);
            Edge.due("twice(-1) of no program: bad before state", even("ab", "").twice(-1), -1000000);
            twiceIs(even("a".repeat(47), "put,b 0;go;"), 2, 95, -1000004);
            twiceIs(even("a".repeat(47), "go;"), 1, 0, 0);
        });
        Edge.test(28, "NONE -1000004 (2): it can not all be done without it.", () -> {
            TypeChain x = even("ab", "put,c 0;go;put,c 1;go;");
            Edge.due("twice(0)", x.twice(0), 3);
            Edge.due("twice(1): c at ticks 4 and 8", x.twice(1), 9);
            Edge.due("twice(2)", x.twice(2), -1000004);
            Edge.due("run(): without it", x.run(), 1);
        });
        Edge.test(28, "how many fewer than RUN (as a text makes it, from TICK 0) takes without it", () -> {
            TypeChain x = even("ab", "put,abb 0;go;");
            x.put(7, 26);
            x.space(1);
            twiceIs(x, 2, 1, 2);
            x.put(7, 0);
            x.run();
            twiceIs(x, 2, 1, 2);
            Edge.due("rule(0): the chain stays", x.rule(0), 2);
            Tape.tell(x, "oh");
            twiceIs(x, 2, 1, 2);
            Tape.tell(x, "chain,ab;pitch 2;gap 2;put,abc 0;go;");
            twiceIs(x, 3, 1, -1000004);
        });
    }

    public static void main(String[] args) {
        run();
        ran();
        best();
        twice();
        Edge.finish();
    }
}

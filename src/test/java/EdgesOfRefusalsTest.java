import java.util.function.ToIntFunction;

/** All promises: the answers, the first that fits, and that a call which is refused changes nothing. */
public final class EdgesOfRefusalsTest {
    private static final int BAD = Edge.BAD, STATE = Edge.STATE, FULL = Edge.FULL, NONE = Edge.NONE;
    private static final String WORDS = "what is refused changes nothing (but THE TAPE, as told)";

    private EdgesOfRefusalsTest() {
    }

    /** An object in which there is something of all that a call could change. */
    private static TypeChain full() {
        TypeChain x = Tape.told("chain,abca;pitch 2;columns 4;power 1;rows 3;hole 0 1;hole 2 3;put,aa 0;go;space 1;put,c 2;");
        x.run();
        x.put(3, 2);
        x.seen(1, 2);
        x.sheet(0, 0, 6);
        x.lay(0, 5, 27);
        x.sheet(1, 1, 4);
        x.lay(1, 2, 7);
        x.feed(Tape.eight("gap 9;go", 0));
        return x;
    }

    /** All that an object answers; what changes it is asked last. Some 150 calls. */
    private static String answers(TypeChain x) {
        StringBuilder b = new StringBuilder("fault ").append(x.fault()).append(" rule");
        for (int i = 0; i < 9; i++) b.append(' ').append(x.rule(i));
        b.append(" slug");
        for (int i = 0; i < 5; i++) b.append(' ').append(x.slug(i));
        b.append(" holes");
        for (int i = 0; i < 4; i++) b.append(' ').append(x.holes(i));
        b.append(" order");
        for (int k = 0; k < 5; k++) b.append(' ').append(x.order(k, 0)).append(' ').append(x.order(k, 1)).append(' ').append(x.order(k, 10));
        b.append(" chain ").append(x.faces(3, 2)).append(' ').append(x.comes(1, 3, 9)).append(' ').append(x.late(2, 1, 2));
        b.append(" line");
        for (int c = 0; c < 4; c++) b.append(' ').append(x.line(c));
        b.append(" ticks ").append(x.ticks(1)).append(" struck");
        for (int i = 0; i < 14; i++) b.append(' ').append(x.struck(i));
        b.append(" slips ").append(x.slipped(1, 0)).append(' ').append(x.slipped(2, 1)).append(' ').append(x.slips(0)).append(' ').append(x.slips(1));
        b.append(" now");
        for (int i = 0; i < 5; i++) b.append(' ').append(x.now(i));
        b.append(" page");
        for (int i = 0; i < 24; i++) b.append(' ').append(x.page(i / 8, i / 2 % 4, i % 2));
        b.append(" ran ").append(x.ran(0)).append(' ').append(x.ran(1)).append(' ').append(x.ran(2));
        b.append(" best ").append(x.best(0)).append(' ').append(x.best(10)).append(' ').append(x.best(13));
        b.append(" twice ").append(x.twice(0)).append(' ').append(x.twice(1)).append(' ').append(x.twice(2)).append(" count");
        for (int i = 0; i < 5; i++) b.append(' ').append(x.count(i));
        b.append(" seen ").append(x.seen(0, NONE)).append(' ').append(x.seen(1, NONE)).append(" sheets");
        for (int f = 0; f < 4; f++) b.append(' ').append(x.read(0, 0, f)).append(' ').append(x.read(1, 1, f)).append(' ').append(x.line(f));
        for (int k = 0; k < 4; k++) b.append(' ').append(x.lay(k, 3, 1)).append(' ').append(x.lay(k, 4, 1));
        return b.append(" text ").append(x.text()).append(' ').append(x.fault()).toString();
    }

    /** A call on the full object answers this, and changes nothing. */
    private static void refused(int promise, String name, ToIntFunction<TypeChain> call, int want) {
        Edge.test(promise, WORDS, () -> {
            TypeChain x = full();
            Edge.due(name, call.applyAsInt(x), want);
            Edge.due("what is behind " + name, answers(x), answers(full()));
        });
    }

    /** The same with a letter in the line that the chain has not. */
    private static void refusedForItsLetter(int promise, String name, ToIntFunction<TypeChain> call) {
        Edge.test(promise, WORDS, () -> {
            TypeChain x = full(), y = full();
            x.put(0, 26);
            y.put(0, 26);
            Edge.due(name, call.applyAsInt(x), STATE);
            Edge.due("what is behind " + name, answers(x), answers(y));
        });
    }

    private static void constants() {
        Edge.test(1, "Answers: BAD -1", () -> Edge.due("BAD", TypeChain.BAD, -1));
        Edge.test(1, "STATE -2 (as told)", () -> Edge.due("STATE", TypeChain.STATE, -2));
        Edge.test(1, "FULL -3", () -> Edge.due("FULL", TypeChain.FULL, -3));
        Edge.test(1, "NONE -4 (there is none)", () -> Edge.due("NONE", TypeChain.NONE, -4));
    }

    private static void ofTheTape() {
        Edge.test(2, WORDS, () -> {
            TypeChain x = full(), y = full();
            for (int i = 0; i < 29; i++) x.feed(Tape.eight("", 0));
            for (int i = 0; i < 29; i++) y.feed(Tape.eight("", 0));
            Edge.due("feed to a full tape", x.feed(-1L), FULL);
            Edge.due("what is behind it", answers(x), answers(y));
        });
        refused(3, "end(-1)", x -> x.end(-1), BAD);
        refused(3, "end(9)", x -> x.end(9), BAD);
        // of what a text that is refused changes, only the tape and fault() are told
        Edge.test(4, WORDS, () -> {
            TypeChain x = full(), y = full();
            Edge.due("text() of \"gap 9;go\"", x.text(), -14);
            y.end(0);
            Edge.due("what is behind it", answers(x), answers(y).replace("fault 0", "fault 3"));
        });
        Edge.test(4, WORDS, () -> {
            TypeChain x = full(), y = full();
            Edge.due("text() with a fault behind all", Tape.tell(x, "chain,zz;rows 9;columns 2;go;put,zzz 0;"), -47);
            y.end(0);
            Edge.due("what is behind it", answers(x), answers(y).replace("fault 0", "fault 7"));
        });
        refused(6, "rule(9)", x -> x.rule(9), BAD);
        refused(7, "slug(4)", x -> x.slug(4), BAD);
        refused(8, "holes(3)", x -> x.holes(3), BAD);
        refused(9, "order(4, 0)", x -> x.order(4, 0), BAD);
        refused(9, "order(0, 12)", x -> x.order(0, 12), BAD);
        refused(10, "faces(4, 0)", x -> x.faces(4, 0), BAD);
        refused(11, "comes(0, 27, 0)", x -> x.comes(0, 27, 0), BAD);
        refused(11, "comes(0, 26, 0)", x -> x.comes(0, 26, 0), NONE);
        refused(12, "late(0, 1, 21)", x -> x.late(0, 1, 21), BAD);
        refused(12, "late(0, 26, 0)", x -> x.late(0, 26, 0), NONE);
    }

    private static void ofLines() {
        refused(13, "put(-1, 1)", x -> x.put(-1, 1), BAD);
        refused(13, "put(4, 1)", x -> x.put(4, 1), BAD);
        refused(13, "put(0, -1)", x -> x.put(0, -1), BAD);
        refused(13, "put(0, 27)", x -> x.put(0, 27), BAD);
        refused(14, "line(4)", x -> x.line(4), BAD);
        refused(15, "ticks(0)", x -> x.ticks(0), BAD);
        refused(15, "ticks(41)", x -> x.ticks(41), BAD);
        refusedForItsLetter(15, "ticks(1)", x -> x.ticks(1));
        refusedForItsLetter(16, "go()", x -> x.go());
        refused(17, "struck(14)", x -> x.struck(14), BAD);
        refused(18, "slipped(4, 0)", x -> x.slipped(4, 0), BAD);
        refused(18, "slipped(0, 2)", x -> x.slipped(0, 2), NONE);
        refused(19, "seen(4, 1)", x -> x.seen(4, 1), -10);
        refused(19, "seen(1, 0)", x -> x.seen(1, 0), -10);
        refused(19, "seen(1, 27)", x -> x.seen(1, 27), -10);
        refused(19, "seen(2, 1)", x -> x.seen(2, 1), -12);
        refused(20, "slips(2)", x -> x.slips(2), BAD);
    }

    private static void ofPaperAndPrograms() {
        refused(21, "space(-1)", x -> x.space(-1), BAD);
        refused(21, "space(10)", x -> x.space(10), BAD);
        refused(22, "skip(-1)", x -> x.skip(-1), BAD);
        refused(22, "skip(8)", x -> x.skip(8), BAD);
        refused(22, "skip(0)", x -> x.skip(0), NONE);
        refused(23, "now(5)", x -> x.now(5), BAD);
        refused(24, "page(3, 0, 0)", x -> x.page(3, 0, 0), BAD);
        refused(26, "ran(3)", x -> x.ran(3), BAD);
        refused(27, "best(16)", x -> x.best(16), BAD);
        refused(28, "twice(3)", x -> x.twice(3), -1000000);
        // a run that ends at its first order has done none, but there was a run
        Edge.test(25, "it ends at one that can not be done", () -> {
            TypeChain x = Tape.told("skip 5;space 1;");
            x.put(0, 1);
            Edge.due("run()", x.run(), 0);
            Edge.due("now(0)", x.now(0), 0);
            Edge.due("now(1)", x.now(1), 0);
            Edge.due("line(0)", x.line(0), 1);
            Edge.due("ran(2)", x.ran(2), 0);
        });
    }

    private static void ofSheets() {
        refused(29, "sheet(4, 0, 1)", x -> x.sheet(4, 0, 1), BAD);
        refused(29, "sheet(-1, 0, 1)", x -> x.sheet(-1, 0, 1), BAD);
        refused(29, "sheet(0, 3, 1)", x -> x.sheet(0, 3, 1), BAD);
        refused(29, "sheet(0, 0, 41)", x -> x.sheet(0, 0, 41), BAD);
        refused(29, "sheet(0, 1, -1)", x -> x.sheet(0, 1, -1), -14);
        refused(29, "sheet(3, 1, -1)", x -> x.sheet(3, 1, -1), -14);
        refused(30, "lay(4, 0, 1)", x -> x.lay(4, 0, 1), BAD);
        refused(30, "lay(2, 0, 1)", x -> x.lay(2, 0, 1), -11);
        refused(30, "lay(1, 4, 1)", x -> x.lay(1, 4, 1), -12);
        refused(30, "lay(1, -1, 1)", x -> x.lay(1, -1, 1), -12);
        refused(31, "read(4, 0, 0)", x -> x.read(4, 0, 0), BAD);
        refused(31, "read(0, 3, 0)", x -> x.read(0, 3, 0), BAD);
        refused(31, "read(2, 0, 0)", x -> x.read(2, 0, 0), -11);
        refused(31, "read(0, 1, 0)", x -> x.read(0, 1, 0), -13);
        refused(31, "read(1, 1, 1): three cells, then none", x -> x.read(1, 1, 1), -12);
        refused(31, "read(0, 0, 2): three cells, then 27", x -> x.read(0, 0, 2), -23);
        refused(32, "count(5)", x -> x.count(5), BAD);
    }

    /** Calls that only ask, and are not refused, change nothing either: they tell what holds. */
    private static void ofQuestions() {
        Edge.test(27, "BEST CHAIN: TICKS (what 0)", () -> {
            TypeChain x = full();
            for (int i = 0; i < 3; i++) Edge.due("best(0) asked again", x.best(0), full().best(0));
            x.twice(2);
            x.ticks(1);
            x.late(0, 1, 3);
            x.comes(0, 1, 50);
            Edge.due("what is behind it", answers(x), answers(full()));
        });
        Edge.test(28, "DOUBLE: the letter (what 0), TICKS (1)", () -> {
            TypeChain x = full();
            x.twice(0);
            int best = x.best(0);
            Edge.due("best(0) behind twice", best, full().best(0));
            Edge.due("twice(1) behind best", x.twice(1), full().twice(1));
            Edge.due("go() behind both", x.go(), full().go());
            Edge.due("run() behind both", x.run(), 4);
        });
    }

    public static void main(String[] args) {
        constants();
        ofTheTape();
        ofLines();
        ofPaperAndPrograms();
        ofSheets();
        ofQuestions();
        Edge.finish();
    }
}

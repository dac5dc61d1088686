/** Promise 1: each boundary case of a new object. */
public final class EdgesOfNewTest {
    private static final int BAD = Edge.BAD, STATE = Edge.STATE, NONE = Edge.NONE;

    private EdgesOfNewTest() {
    }

    private static void chain() {
        Edge.test(1, "at first a to f", () -> {
            TypeChain x = new TypeChain();
            Edge.due("rule(0)", x.rule(0), 6);
            for (int i = 0; i < 6; i++) Edge.due("slug(" + i + ")", x.slug(i), i + 1);
            Edge.due("slug(6)", x.slug(6), BAD);
            Edge.due("count(1)", x.count(1), 6);
            Edge.due("comes(0, 6, 0)", x.comes(0, 6, 0), 15);
            Edge.due("comes(0, 7, 0)", x.comes(0, 7, 0), NONE);
        });
        Edge.test(1, "PITCH p (2 to 6; 3)", () -> {
            TypeChain x = new TypeChain();
            Edge.due("rule(1)", x.rule(1), 3);
            Edge.due("faces(0, 2)", x.faces(0, 2), NONE);
            Edge.due("faces(0, 3)", x.faces(0, 3), 2);
            Edge.due("faces(0, 4)", x.faces(0, 4), NONE);
        });
        Edge.test(1, "GAP q (1 to 6; 2)", () -> {
            TypeChain x = new TypeChain();
            Edge.due("rule(2)", x.rule(2), 2);
            Edge.due("faces(1, 0)", x.faces(1, 0), NONE);
            Edge.due("faces(1, 1)", x.faces(1, 1), 2);
            Edge.due("faces(3, 0)", x.faces(3, 0), 3);
        });
        Edge.test(1, "COLUMNS 0 to C - 1 (C 1 to 40; 20)", () -> {
            TypeChain x = new TypeChain();
            Edge.due("rule(3)", x.rule(3), 20);
            Edge.due("line(19)", x.line(19), 0);
            Edge.due("line(20)", x.line(20), BAD);
        });
        Edge.test(1, "POWER (1 to 40; 40)", () -> Edge.due("rule(4)", new TypeChain().rule(4), 40));
    }

    private static void form() {
        Edge.test(1, "START 0 to 20, 3 at first; STEP 1 to 20, 2 at first", () -> {
            TypeChain x = new TypeChain();
            Edge.due("rule(5)", x.rule(5), 3);
            Edge.due("rule(6)", x.rule(6), 2);
            Edge.due("space(1)", x.space(1), 5);
            Edge.due("space(2)", x.space(2), 7);
        });
        Edge.test(1, "FORM: n ROWS (1 to 60; 12)", () -> {
            TypeChain x = new TypeChain();
            Edge.due("rule(7)", x.rule(7), 12);
            Edge.due("page(11, 0, 0)", x.page(11, 0, 0), 0);
            Edge.due("page(12, 0, 0)", x.page(12, 0, 0), BAD);
            x.space(9);
            x.space(2);
            Edge.due("now(1) at the last row", x.now(1), 11);
            x.space(1);
            Edge.due("now(1) behind the last row", x.now(1), 0);
        });
        Edge.test(1, "ROW 0 has one in CHANNEL 0 at first, none else", () -> {
            TypeChain x = new TypeChain();
            for (int r = 0; r < 12; r++) Edge.due("holes(" + r + ")", x.holes(r), r == 0 ? 1 : 0);
            Edge.due("count(2)", x.count(2), 1);
            for (int k = 1; k < 8; k++) Edge.due("skip(" + k + ")", x.skip(k), NONE);
            Edge.due("skip(0)", x.skip(0), 27);
        });
        Edge.test(1, "The paper stands at a ROW (0 at first).", () -> Edge.due("now(1)", new TypeChain().now(1), 0));
        Edge.test(1, "a new PAGE begins (PAGES 1 at first), all BLANK", () -> {
            TypeChain x = new TypeChain();
            Edge.due("now(2)", x.now(2), 1);
            Edge.due("now(3)", x.now(3), 0);
            Edge.due("now(4)", x.now(4), 0);
            for (int c = 0; c < 20; c++) Edge.due("page(0, c, 0)", x.page(0, c, 0), 0);
            for (int c = 0; c < 20; c++) Edge.due("page(11, c, 1)", x.page(11, c, 1), 0);
        });
        Edge.test(1, "THE LINE: a letter or BLANK for each COLUMN (BLANK at first)", () -> {
            TypeChain x = new TypeChain();
            for (int c = 0; c < 20; c++) Edge.due("line(" + c + ")", x.line(c), 0);
            Edge.due("count(0)", x.count(0), 0);
        });
        Edge.test(1, "(TICKS are counted from 0 on.)", () -> {
            TypeChain x = new TypeChain();
            Edge.due("now(0)", x.now(0), 0);
            x.put(0, 1);
            Edge.due("go() of the letter that faces at tick 0", x.go(), 1);
            Edge.due("struck(10)", x.struck(10), 0);
        });
    }

    private static void rest() {
        Edge.test(1, "THE PROGRAM is empty", () -> {
            TypeChain x = new TypeChain();
            Edge.due("rule(8)", x.rule(8), 0);
            Edge.due("order(0, 0)", x.order(0, 0), BAD);
            Edge.due("best(0)", x.best(0), STATE);
            Edge.due("twice(0)", x.twice(0), -1000002);
            Edge.due("run()", x.run(), 0);
        });
        Edge.test(1, "SHEETS of nothing.", () -> {
            TypeChain x = new TypeChain();
            for (int k = 0; k < 4; k++) Edge.due("lay(" + k + ", 0, 0)", x.lay(k, 0, 0), -11);
            for (int k = 0; k < 4; k++) Edge.due("read(" + k + ", 0, 0)", x.read(k, 0, 0), -11);
            Edge.due("count(4)", x.count(4), NONE);
        });
        Edge.test(1, "As told at first", () -> {
            TypeChain x = new TypeChain();
            Edge.due("fault()", x.fault(), 0);
            Edge.due("struck(0)", x.struck(0), STATE);
            Edge.due("slipped(0, 0)", x.slipped(0, 0), STATE);
            Edge.due("seen(0, 1)", x.seen(0, 1), -12);
            Edge.due("slips(0)", x.slips(0), STATE);
            Edge.due("ran(0)", x.ran(0), STATE);
            Edge.due("count(3)", x.count(3), 0);
            Edge.due("text() of an empty tape", x.text(), 0);
        });
        Edge.test(1, "As told at first", () -> {
            TypeChain x = Tape.told("chain,zy;pitch 2;columns 3;rows 2;hole 1 1;put,z 0;go;");
            x.run();
            x.sheet(0, 0, 5);
            x.feed(0);
            TypeChain y = new TypeChain();
            Edge.due("slug(0) of another object", y.slug(0), 1);
            Edge.due("rule(8) of another object", y.rule(8), 0);
            Edge.due("holes(0) of another object", y.holes(0), 1);
            Edge.due("page(0, 0, 0) of another object", y.page(0, 0, 0), 0);
            Edge.due("count(3) of another object", y.count(3), 0);
            Edge.due("count(4) of another object", y.count(4), NONE);
        });
    }

    public static void main(String[] args) {
        chain();
        form();
        rest();
        Edge.finish();
    }
}

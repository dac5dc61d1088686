/** Promises 21 to 24: each boundary case of the paper that is moved, and of its pages. */
public final class EdgesOfPaperTest {
    private static final int BAD = Edge.BAD, NONE = Edge.NONE;
    private static final int LEAST = Edge.LEAST, GREATEST = Edge.GREATEST;

    private EdgesOfPaperTest() {
    }

    private static void strike(TypeChain x, int c, int letter) {
        x.put(c, letter);
        x.go();
    }

    private static void stands(TypeChain x, String when, int row, int pages) {
        Edge.due("now(1) " + when, x.now(1), row);
        Edge.due("now(2) " + when, x.now(2), pages);
    }

    private static void space() {
        Edge.test(21, "The paper moves by k ROWS (0 to 9): TICKS. BAD.", () -> {
            TypeChain x = new TypeChain();
            for (int k : new int[] {LEAST, -1, 10, 11, GREATEST}) Edge.due("space(" + k + ")", x.space(k), BAD);
            stands(x, "stays", 0, 1);
            Edge.due("now(0) stays", x.now(0), 0);
            Edge.due("space(9)", x.space(9), 21);
            stands(x, "behind 9", 9, 1);
        });
        Edge.test(21, "To move it by k ROWS (1 at least) takes START and k times STEP TICKS", () -> {
            TypeChain x = Tape.told("start 20;step 20;");
            Edge.due("space(0): no move", x.space(0), 0);
            Edge.due("now(0)", x.now(0), 0);
            stands(x, "behind 0", 0, 1);
            Edge.due("space(1)", x.space(1), 40);
            Edge.due("now(0)", x.now(0), 40);
            Edge.due("space(9)", x.space(9), 200);
            Edge.due("now(0)", x.now(0), 240);
            TypeChain y = Tape.told("start 0;step 1;");
            Edge.due("space(1) of the least", y.space(1), 1);
            Edge.due("space(9) of the least", y.space(9), 9);
            Edge.due("now(0)", y.now(0), 10);
        });
        Edge.test(21, "as it comes to ROW 0 from the last one, a new PAGE begins", () -> {
            TypeChain x = Tape.told("rows 5;");
            x.space(4);
            stands(x, "at the last row", 4, 1);
            x.space(0);
            stands(x, "still there", 4, 1);
            x.space(1);
            stands(x, "behind the last row", 0, 2);
            x.space(5);
            stands(x, "once round", 0, 3);
            x.space(9);
            stands(x, "once round and 4", 4, 4);
            x.space(7);
            stands(x, "twice over the last row", 1, 6);
        });
        Edge.test(21, "as it comes to ROW 0 from the last one, a new PAGE begins", () -> {
            TypeChain x = Tape.told("rows 1;");
            x.space(1);
            stands(x, "one row, moved by 1", 0, 2);
            x.space(9);
            stands(x, "one row, moved by 9", 0, 11);
            x.space(0);
            stands(x, "one row, not moved", 0, 11);
            TypeChain y = Tape.told("rows 60;");
            for (int i = 0; i < 6; i++) y.space(9);
            y.space(5);
            stands(y, "at the 60th row", 59, 1);
            y.space(1);
            stands(y, "behind the 60th row", 0, 2);
        });
        Edge.test(21, "a new PAGE begins (PAGES 1 at first), all BLANK", () -> {
            TypeChain x = Tape.told("rows 3;columns 40;");
            strike(x, 0, 1);
            x.space(2);
            strike(x, 39, 2);
            Edge.due("now(3) at the last row", x.now(3), 2);
            x.space(0);
            Edge.due("now(3) not moved", x.now(3), 2);
            x.space(1);
            Edge.due("now(3) on a new page", x.now(3), 0);
            Edge.due("page(0, 0, 0)", x.page(0, 0, 0), 0);
            Edge.due("page(0, 0, 1)", x.page(0, 0, 1), 0);
            Edge.due("page(2, 39, 0)", x.page(2, 39, 0), 0);
            Edge.due("page(2, 39, 1)", x.page(2, 39, 1), 0);
        });
    }

    private static void skip() {
        Edge.test(22, "The paper moves to the next ROW (1 at least, round to this one) with a HOLE in a CHANNEL: TICKS.", () -> {
            TypeChain x = Tape.told("rows 4;hole 0 1;hole 1 1;hole 3 2;");
            Edge.due("skip(1) from a row with a hole", x.skip(1), 5);
            stands(x, "at the next", 1, 1);
            Edge.due("skip(1) over the last row", x.skip(1), 9);
            stands(x, "at row 0", 0, 2);
            Edge.due("skip(2) to the last row", x.skip(2), 9);
            stands(x, "at the last row", 3, 2);
            Edge.due("skip(2) round to this one", x.skip(2), 11);
            stands(x, "at the last row again", 3, 3);
        });
        Edge.test(22, "(1 at least, round to this one)", () -> {
            TypeChain x = Tape.told("rows 1;");
            Edge.due("skip(0) of one row", x.skip(0), 5);
            stands(x, "of one row", 0, 2);
            TypeChain y = Tape.told("rows 60;start 20;step 20;hole 59 7;");
            Edge.due("skip(7) to row 59", y.skip(7), 1200);
            stands(y, "at row 59", 59, 1);
            Edge.due("skip(7) round to it", y.skip(7), 1220);
            stands(y, "at row 59 again", 59, 2);
            TypeChain z = new TypeChain();
            Edge.due("skip(0) from row 0 to itself", z.skip(0), 27);
            stands(z, "round", 0, 2);
        });
        Edge.test(22, "BAD; NONE.", () -> {
            TypeChain x = Tape.told("hole 1 0;hole 2 7;");
            for (int k : new int[] {LEAST, -1, 8, 31, 32, GREATEST}) Edge.due("skip(" + k + ")", x.skip(k), BAD);
            for (int k = 1; k < 7; k++) Edge.due("skip(" + k + ")", x.skip(k), NONE);
            stands(x, "stays", 0, 1);
            Edge.due("now(0) stays", x.now(0), 0);
            Edge.due("skip(0)", x.skip(0), 5);
            Edge.due("skip(7)", x.skip(7), 5);
            stands(x, "behind two", 2, 1);
        });
        Edge.test(22, "as it comes to ROW 0 from the last one, a new PAGE begins (PAGES 1 at first), all BLANK", () -> {
            TypeChain x = Tape.told("rows 4;hole 3 0;hole 1 1;");
            strike(x, 0, 1);
            x.skip(0);
            Edge.due("now(3) on the same page", x.now(3), 1);
            x.skip(1);
            Edge.due("now(3) on a new page", x.now(3), 0);
            stands(x, "on a new page", 1, 2);
        });
    }

    private static void now() {
        String words = "Of now: 0 the TICK, 1 the ROW, 2 PAGES, 3 COLUMNS of the PAGE that are not BLANK, 4 of these struck over. BAD.";
        Edge.test(23, words, () -> {
            TypeChain x = new TypeChain();
            for (int what : new int[] {LEAST, -1, 5, 10, GREATEST}) Edge.due("now(" + what + ")", x.now(what), BAD);
            int[] first = {0, 0, 1, 0, 0};
            for (int i = 0; i < 5; i++) Edge.due("now(" + i + ")", x.now(i), first[i]);
        });
        Edge.test(23, "3 COLUMNS of the PAGE that are not BLANK, 4 of these struck over", () -> {
            TypeChain x = new TypeChain();
            strike(x, 3, 1);
            Edge.due("now(3) struck once", x.now(3), 1);
            Edge.due("now(4) struck once", x.now(4), 0);
            strike(x, 3, 1);
            Edge.due("now(3) struck twice", x.now(3), 1);
            Edge.due("now(4) struck twice", x.now(4), 1);
            strike(x, 3, 2);
            Edge.due("now(4) struck three times", x.now(4), 1);
            x.space(1);
            strike(x, 3, 1);
            Edge.due("now(3) in another row", x.now(3), 2);
            Edge.due("now(4) in another row", x.now(4), 1);
            strike(x, 19, 1);
            Edge.due("now(3) in another column", x.now(3), 3);
        });
        Edge.test(23, "3 COLUMNS of the PAGE that are not BLANK, 4 of these struck over", () -> {
            TypeChain x = Tape.told("rows 60;columns 40;hole 59 0;");
            x.skip(0);
            for (int n = 0; n < 2; n++) {
                for (int c = 0; c < 40; c++) x.put(c, 1 + c % 6);
                x.go();
            }
            Edge.due("now(3) of a full last row", x.now(3), 40);
            Edge.due("now(4) of a full last row", x.now(4), 40);
        });
    }

    private static void page() {
        Edge.test(24, "Of the PAGE: the letter of a ROW and a COLUMN (what 0), how often it was struck (1). BAD.", () -> {
            TypeChain x = Tape.told("rows 3;columns 4;");
            for (int r : new int[] {LEAST, -1, 3, 59, GREATEST}) Edge.due("page(" + r + ", 0, 0)", x.page(r, 0, 0), BAD);
            for (int c : new int[] {LEAST, -1, 4, 39, GREATEST}) Edge.due("page(0, " + c + ", 0)", x.page(0, c, 0), BAD);
            for (int w : new int[] {LEAST, -1, 2, GREATEST}) Edge.due("page(0, 0, " + w + ")", x.page(0, 0, w), BAD);
            Edge.due("page(2, 3, 0)", x.page(2, 3, 0), 0);
            Edge.due("page(2, 3, 1)", x.page(2, 3, 1), 0);
            TypeChain y = Tape.told("rows 60;columns 40;hole 59 0;");
            y.skip(0);
            strike(y, 39, 6);
            Edge.due("page(59, 39, 0)", y.page(59, 39, 0), 6);
            Edge.due("page(59, 39, 1)", y.page(59, 39, 1), 1);
            Edge.due("page(59, 38, 0)", y.page(59, 38, 0), 0);
            Edge.due("page(58, 39, 0)", y.page(58, 39, 0), 0);
            Edge.due("page(60, 0, 0)", y.page(60, 0, 0), BAD);
            Edge.due("page(0, 40, 0)", y.page(0, 40, 0), BAD);
            TypeChain z = Tape.told("rows 1;columns 1;");
            strike(z, 0, 2);
            Edge.due("page(0, 0, 0) of one place", z.page(0, 0, 0), 2);
            Edge.due("page(1, 0, 0) of one place", z.page(1, 0, 0), BAD);
            Edge.due("page(0, 1, 0) of one place", z.page(0, 1, 0), BAD);
        });
        Edge.test(24, "A PAGE keeps for each ROW and COLUMN the letter that was struck last, and how often one was.", () -> {
            TypeChain x = new TypeChain();
            strike(x, 0, 3);
            strike(x, 0, 1);
            Edge.due("page(0, 0, 0): the last one", x.page(0, 0, 0), 1);
            Edge.due("page(0, 0, 1)", x.page(0, 0, 1), 2);
            x.put(0, 0);
            x.put(1, 2);
            x.go();
            Edge.due("page(0, 0, 0): a blank is not struck", x.page(0, 0, 0), 1);
            Edge.due("page(0, 0, 1): a blank is not struck", x.page(0, 0, 1), 2);
            x.put(0, 26);
            x.go();
            Edge.due("page(0, 0, 0): what could not be struck", x.page(0, 0, 0), 1);
            x.put(0, 0);
            for (int i = 0; i < 200; i++) strike(x, 1, 4);
            Edge.due("page(0, 1, 0)", x.page(0, 1, 0), 4);
            Edge.due("page(0, 1, 1): once and 200 times", x.page(0, 1, 1), 201);
        });
    }

    public static void main(String[] args) {
        space();
        skip();
        now();
        page();
        Edge.finish();
    }
}

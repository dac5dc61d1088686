/** Promises 10 to 12: each boundary case of which letter faces which column at which tick. */
public final class EdgesOfChainTest {
    private static final int BAD = Edge.BAD, STATE = Edge.STATE, NONE = Edge.NONE;
    private static final int LEAST = Edge.LEAST, GREATEST = Edge.GREATEST;

    private EdgesOfChainTest() {
    }

    private static void faces() {
        String words = "At TICK t SLUG m mod L FACES COLUMN c, if c times q and t, summed, are m times p; else none does.";
        Edge.test(10, words, () -> {
            TypeChain x = new TypeChain();
            Edge.due("faces(0, 0)", x.faces(0, 0), 1);
            Edge.due("faces(0, 15): the last slug", x.faces(0, 15), 6);
            Edge.due("faces(0, 18): round to the first", x.faces(0, 18), 1);
            Edge.due("faces(0, 17)", x.faces(0, 17), NONE);
            Edge.due("faces(0, 19)", x.faces(0, 19), NONE);
            Edge.due("faces(9, 0): round by the column alone", x.faces(9, 0), 1);
            Edge.due("faces(6, 3)", x.faces(6, 3), 6);
            Edge.due("faces(19, 1): 39 is 13 times 3", x.faces(19, 1), 2);
        });
        Edge.test(10, words, () -> {
            TypeChain x = Tape.told("chain,zy;pitch 6;gap 6;columns 40;");
            for (int t = 0; t < 6; t++) Edge.due("faces(39, " + t + ")", x.faces(39, t), t == 0 ? 25 : NONE);
            Edge.due("faces(39, 6)", x.faces(39, 6), 26);
            Edge.due("faces(38, 0)", x.faces(38, 0), 26);
            TypeChain y = Tape.told("chain," + "a".repeat(47) + "b;pitch 2;gap 1;columns 40;");
            Edge.due("faces(0, 94): slug 47", y.faces(0, 94), 2);
            Edge.due("faces(0, 96): slug 0", y.faces(0, 96), 1);
            Edge.due("faces(39, 55): slug 47", y.faces(39, 55), 2);
            Edge.due("faces(39, 56)", y.faces(39, 56), NONE);
        });
        Edge.test(10, "The letter that FACES a COLUMN at a TICK (0 to 1000000)", () -> {
            TypeChain x = new TypeChain();
            for (int t : new int[] {LEAST, -18, -1, 1000001, GREATEST}) Edge.due("faces(0, " + t + ")", x.faces(0, t), BAD);
            Edge.due("faces(0, 0)", x.faces(0, 0), 1);
            Edge.due("faces(0, 999999): slug 333333 mod 6", x.faces(0, 999999), 4);
            Edge.due("faces(0, 1000000)", x.faces(0, 1000000), NONE);
            Edge.due("faces(1, 1000000): slug 333334 mod 6", x.faces(1, 1000000), 5);
        });
        Edge.test(10, "NONE: none does. BAD.", () -> {
            TypeChain x = new TypeChain();
            for (int c : new int[] {LEAST, -1, 20, 39, 40, GREATEST}) Edge.due("faces(" + c + ", 0)", x.faces(c, 0), BAD);
            Edge.due("faces(19, 0): none, not bad", x.faces(19, 0), NONE);
            TypeChain y = Tape.told("columns 1;");
            Edge.due("faces(0, 0) of one column", y.faces(0, 0), 1);
            Edge.due("faces(1, 1) of one column", y.faces(1, 1), BAD);
            TypeChain z = Tape.told("columns 40;");
            Edge.due("faces(39, 0) of 40", z.faces(39, 0), 3);
            Edge.due("faces(40, 1) of 40", z.faces(40, 1), BAD);
        });
    }

    private static void comes() {
        Edge.test(11, "The first TICK (t at least) at which a letter (1 to 26) FACES a COLUMN.", () -> {
            TypeChain x = new TypeChain();
            Edge.due("comes(0, 1, 0): at once", x.comes(0, 1, 0), 0);
            Edge.due("comes(0, 1, 1): round", x.comes(0, 1, 1), 18);
            Edge.due("comes(0, 1, 18)", x.comes(0, 1, 18), 18);
            Edge.due("comes(0, 1, 19)", x.comes(0, 1, 19), 36);
            Edge.due("comes(0, 6, 15)", x.comes(0, 6, 15), 15);
            Edge.due("comes(0, 6, 16)", x.comes(0, 6, 16), 33);
            Edge.due("comes(19, 1, 0): 54 is 38 and 16", x.comes(19, 1, 0), 16);
            Edge.due("comes(9, 1, 0): 18 is 18 and 0", x.comes(9, 1, 0), 0);
        });
        Edge.test(11, "The first TICK (t at least)", () -> {
            TypeChain x = Tape.told("chain,abba;");
            Edge.due("comes(0, 1, 1): the last slug", x.comes(0, 1, 1), 9);
            Edge.due("comes(0, 1, 9)", x.comes(0, 1, 9), 9);
            Edge.due("comes(0, 1, 10): round", x.comes(0, 1, 10), 12);
            Edge.due("comes(0, 2, 3)", x.comes(0, 2, 3), 3);
            Edge.due("comes(0, 2, 4)", x.comes(0, 2, 4), 6);
            Edge.due("comes(0, 2, 7)", x.comes(0, 2, 7), 15);
        });
        // a TICK has the bounds that faces tells
        Edge.test(11, "The first TICK (t at least)", () -> {
            TypeChain x = new TypeChain();
            for (int t : new int[] {LEAST, -1, 1000001, GREATEST}) Edge.due("comes(0, 1, " + t + ")", x.comes(0, 1, t), BAD);
            Edge.due("comes(0, 1, 1000000)", x.comes(0, 1, 1000000), 1000008);
            Edge.due("comes(0, 4, 999999)", x.comes(0, 4, 999999), 999999);
            Edge.due("comes(0, 4, 1000000)", x.comes(0, 4, 1000000), 1000017);
        });
        Edge.test(11, "a letter (1 to 26)", () -> {
            TypeChain x = Tape.told("chain,az;");
            for (int l : new int[] {LEAST, -4, -1, 0, 27, GREATEST}) Edge.due("comes(0, " + l + ", 0)", x.comes(0, l, 0), BAD);
            Edge.due("comes(0, 1, 0)", x.comes(0, 1, 0), 0);
            Edge.due("comes(0, 26, 0)", x.comes(0, 26, 0), 3);
        });
        Edge.test(11, "BAD; NONE: THE CHAIN has it not.", () -> {
            TypeChain x = Tape.told("chain,by;columns 2;");
            Edge.due("comes(0, 1, 0)", x.comes(0, 1, 0), NONE);
            Edge.due("comes(1, 26, 1000000)", x.comes(1, 26, 1000000), NONE);
            for (int c : new int[] {LEAST, -1, 2, GREATEST}) Edge.due("comes(" + c + ", 2, 0)", x.comes(c, 2, 0), BAD);
            Edge.due("comes(2, 1, 0): bad before none", x.comes(2, 1, 0), BAD);
            Edge.due("comes(0, 1, -1): bad before none", x.comes(0, 1, -1), BAD);
        });
    }

    private static void late() {
        Edge.test(12, "LATE by d (-20 to 20)", () -> {
            TypeChain x = new TypeChain();
            for (int d : new int[] {LEAST, -21, 21, GREATEST}) Edge.due("late(0, 2, " + d + ")", x.late(0, 2, d), BAD);
            Edge.due("late(0, 6, 20): tick 35", x.late(0, 6, 20), 0);
            Edge.due("late(1, 2, 20): tick 21", x.late(1, 2, 20), 0);
            TypeChain y = Tape.told("pitch 2;");
            Edge.due("late(0, 1, 20): slug 10 mod 6", y.late(0, 1, 20), 5);
            x.space(9);
            Edge.due("late(0, 3, -20): tick 24 less 20", x.late(0, 3, -20), 0);
            Edge.due("late(0, 3, -18): tick 24 less 18", x.late(0, 3, -18), 3);
        });
        Edge.test(12, "strikes d TICKS later (earlier): what FACES the COLUMN then; if none does: a SMEAR", () -> {
            TypeChain x = new TypeChain();
            Edge.due("late(0, 2, 0)", x.late(0, 2, 0), 2);
            Edge.due("late(0, 2, 1)", x.late(0, 2, 1), 0);
            Edge.due("late(0, 2, -1)", x.late(0, 2, -1), 0);
            Edge.due("late(0, 2, 3)", x.late(0, 2, 3), 3);
            Edge.due("late(0, 2, -3)", x.late(0, 2, -3), 1);
            Edge.due("late(0, 6, 3): round to the first", x.late(0, 6, 3), 1);
            Edge.due("late(0, 2, 18): round to the same", x.late(0, 2, 18), 2);
        });
        Edge.test(12, "STATE: that TICK is below 0.", () -> {
            TypeChain x = new TypeChain();
            Edge.due("late(0, 1, -1)", x.late(0, 1, -1), STATE);
            Edge.due("late(0, 1, 0): tick 0", x.late(0, 1, 0), 1);
            Edge.due("late(0, 2, -3): tick 0", x.late(0, 2, -3), 1);
            Edge.due("late(0, 2, -4)", x.late(0, 2, -4), STATE);
            Edge.due("late(0, 6, -15): tick 0", x.late(0, 6, -15), 1);
            Edge.due("late(0, 6, -16)", x.late(0, 6, -16), STATE);
            Edge.due("late(1, 2, -1): tick 0, where none does", x.late(1, 2, -1), 0);
            Edge.due("late(1, 2, -2)", x.late(1, 2, -2), STATE);
        });
        Edge.test(12, "as it comes next (from now on)", () -> {
            TypeChain x = new TypeChain();
            x.put(0, 1);
            x.go();
            Edge.due("now(0)", x.now(0), 1);
            Edge.due("late(0, 1, -18): it comes at 18", x.late(0, 1, -18), 1);
            Edge.due("late(0, 1, -19)", x.late(0, 1, -19), STATE);
            Edge.due("late(0, 2, -4): it comes at 3", x.late(0, 2, -4), STATE);
            x.put(0, 2);
            x.go();
            Edge.due("now(0)", x.now(0), 4);
            Edge.due("late(0, 2, -4): it comes at 21", x.late(0, 2, -4), 0);
            Edge.due("late(0, 2, -20)", x.late(0, 2, -20), 0);
            TypeChain y = Tape.told("start 0;step 1;");
            y.space(3);
            Edge.due("late(0, 2, -3): it comes just now", y.late(0, 2, -3), 1);
            Edge.due("late(0, 2, -4)", y.late(0, 2, -4), STATE);
        });
        Edge.test(12, "BAD; NONE: THE CHAIN has it not; STATE: that TICK is below 0.", () -> {
            TypeChain x = new TypeChain();
            Edge.due("late(0, 7, 0)", x.late(0, 7, 0), NONE);
            Edge.due("late(0, 26, -20)", x.late(0, 26, -20), NONE);
            for (int l : new int[] {LEAST, -4, 0, 27, GREATEST}) Edge.due("late(0, " + l + ", 0)", x.late(0, l, 0), BAD);
            for (int c : new int[] {LEAST, -1, 20, GREATEST}) Edge.due("late(" + c + ", 1, 0)", x.late(c, 1, 0), BAD);
            Edge.due("late(19, 3, 0)", x.late(19, 3, 0), 3);
            Edge.due("late(20, 7, 0): bad before none", x.late(20, 7, 0), BAD);
            Edge.due("late(0, 7, 21): bad before none", x.late(0, 7, 21), BAD);
            Edge.due("late(0, 1, -21): bad before state", x.late(0, 1, -21), BAD);
            TypeChain y = Tape.told("chain,az;");
            Edge.due("late(0, 26, 0)", y.late(0, 26, 0), 26);
        });
    }

    public static void main(String[] args) {
        faces();
        comes();
        late();
        Edge.finish();
    }
}

/** Promises 29 to 32: each boundary case of the sheets, of lines read from them, and of counts. */
public final class EdgesOfSheetsTest {
    private static final int BAD = Edge.BAD, NONE = Edge.NONE;
    private static final int LEAST = Edge.LEAST, GREATEST = Edge.GREATEST;

    private EdgesOfSheetsTest() {
    }

    /** One column, so that read tells what a single cell holds. */
    private static TypeChain narrow() {
        return Tape.told("columns 1;");
    }

    private static void sheet() {
        Edge.test(29, "SHEETS 0 to 3 are rows of BYTES (lane 0), SHORTS (1), INTS (2) with 0 to 40 CELLS", () -> {
            TypeChain x = new TypeChain();
            for (int k : new int[] {LEAST, -1, 4, GREATEST}) Edge.due("sheet(" + k + ", 0, 1)", x.sheet(k, 0, 1), BAD);
            for (int lane : new int[] {LEAST, -1, 3, GREATEST}) Edge.due("sheet(0, " + lane + ", 1)", x.sheet(0, lane, 1), BAD);
            Edge.due("count(4): nothing yet", x.count(4), NONE);
            for (int k = 0; k < 4; k++) {
                for (int lane = 0; lane < 3; lane++) Edge.due("sheet(" + k + ", " + lane + ", 9)", x.sheet(k, lane, 9), 1);
            }
        });
        Edge.test(29, "BAD: also n above 40; -10 - 4.", () -> {
            TypeChain x = new TypeChain();
            Edge.due("sheet(0, 0, 40)", x.sheet(0, 0, 40), 1);
            Edge.due("sheet(0, 0, 41)", x.sheet(0, 0, 41), BAD);
            Edge.due("sheet(0, 0, greatest)", x.sheet(0, 0, GREATEST), BAD);
            Edge.due("sheet(0, 0, -1)", x.sheet(0, 0, -1), -14);
            Edge.due("sheet(0, 2, least)", x.sheet(0, 2, LEAST), -14);
            Edge.due("count(4) stays", x.count(4), 40);
            Edge.due("sheet(4, 0, -1): bad before size", x.sheet(4, 0, -1), BAD);
            Edge.due("sheet(0, 3, -1): bad before size", x.sheet(0, 3, -1), BAD);
            Edge.due("sheet(0, 0, 0)", x.sheet(0, 0, 0), 1);
            Edge.due("count(4) of no cells", x.count(4), 0);
        });
        Edge.test(29, "A SHEET is a new row of CELLS 0: 1.", () -> {
            TypeChain x = narrow();
            x.sheet(3, 0, 40);
            x.lay(3, 0, 5);
            x.lay(3, 39, 6);
            Edge.due("sheet(3, 0, 40) again", x.sheet(3, 0, 40), 1);
            Edge.due("read(3, 0, 0)", x.read(3, 0, 0), 0);
            Edge.due("read(3, 0, 39)", x.read(3, 0, 39), 0);
            x.lay(3, 0, 5);
            Edge.due("sheet(3, 2, 1): another lane", x.sheet(3, 2, 1), 1);
            Edge.due("read(3, 2, 0)", x.read(3, 2, 0), 0);
            Edge.due("read(3, 0, 0)", x.read(3, 0, 0), -13);
            Edge.due("lay(3, 1, 1): fewer cells", x.lay(3, 1, 1), -12);
            Edge.due("lay(2, 0, 1): other sheets stay", x.lay(2, 0, 1), -11);
        });
    }

    private static void lay() {
        Edge.test(30, "BAD: k; -10 less the FAULT: NULL, INDEX.", () -> {
            TypeChain x = new TypeChain();
            for (int k : new int[] {LEAST, -1, 4, GREATEST}) Edge.due("lay(" + k + ", 0, 1)", x.lay(k, 0, 1), BAD);
            Edge.due("lay(3, 0, 1) of nothing", x.lay(3, 0, 1), -11);
            Edge.due("lay(3, -1, 1) of nothing: null before index", x.lay(3, -1, 1), -11);
            Edge.due("lay(4, -1, 1): bad before null", x.lay(4, -1, 1), BAD);
            x.sheet(3, 0, 40);
            for (int i : new int[] {LEAST, -1, 40, GREATEST}) Edge.due("lay(3, " + i + ", 1)", x.lay(3, i, 1), -12);
            Edge.due("lay(3, 0, 1)", x.lay(3, 0, 1), 1);
            Edge.due("lay(3, 39, 1)", x.lay(3, 39, 1), 1);
            x.sheet(0, 1, 0);
            Edge.due("lay(0, 0, 1) of no cells", x.lay(0, 0, 1), -12);
            x.sheet(0, 1, 1);
            Edge.due("lay(0, 0, 1) of one cell", x.lay(0, 0, 1), 1);
            Edge.due("lay(0, 1, 1) of one cell", x.lay(0, 1, 1), -12);
        });
        Edge.test(30, "CELL i of a SHEET becomes v (its lowest bits): 1.", () -> {
            int[] values = {26, 27, -1, 127, 128, 255, 256, 257, 256 + 26, 256 + 27, 32767, 32768, 65535, 65536, 65536 + 26,
                65536 + 27, 1 << 24, LEAST, LEAST + 3, GREATEST, -256, -256 + 7, -65536 + 7};
            for (int lane = 0; lane < 3; lane++) {
                TypeChain x = narrow();
                x.sheet(1, lane, 2);
                for (int v : values) {
                    Edge.due("lay(1, 1, " + v + ")", x.lay(1, 1, v), 1);
                    int kept = lane == 0 ? (byte) v : lane == 1 ? (short) v : v;
                    int due = kept < 0 || kept > 26 ? -20 : kept == 0 ? 0 : 1;
                    Edge.due("read of " + v + " in lane " + lane, x.read(1, lane, 1), due);
                    if (due == 1) Edge.due("line(0) of " + v, x.line(0), kept);
                }
            }
        });
        Edge.test(30, "CELL i of a SHEET becomes v", () -> {
            TypeChain x = narrow();
            for (int k = 0; k < 4; k++) x.sheet(k, k % 3, 40);
            for (int k = 0; k < 4; k++) x.lay(k, 39, k + 1);
            for (int k = 0; k < 4; k++) x.lay(k, 0, k + 11);
            for (int k = 0; k < 4; k++) {
                x.read(k, k % 3, 39);
                Edge.due("cell 39 of sheet " + k, x.line(0), k + 1);
                x.read(k, k % 3, 0);
                Edge.due("cell 0 of sheet " + k, x.line(0), k + 11);
                Edge.due("cell 1 of sheet " + k, x.read(k, k % 3, 1), 0);
            }
        });
    }

    private static void read() {
        Edge.test(31, "THE LINE is read of a SHEET taken as of a lane, COLUMN c of CELL f + c: how many letters it has then.", () -> {
            TypeChain x = Tape.told("columns 40;");
            x.sheet(0, 2, 40);
            for (int i = 0; i < 40; i++) x.lay(0, i, i % 27);
            Edge.due("read(0, 2, 0) of just enough cells", x.read(0, 2, 0), 38);
            for (int c = 0; c < 40; c++) Edge.due("line(" + c + ")", x.line(c), c % 27);
            Edge.due("read(0, 2, 1): cell 40", x.read(0, 2, 1), -12);
            Edge.due("read(0, 2, -1): cell -1", x.read(0, 2, -1), -12);
        });
        Edge.test(31, "THE LINE is read of a SHEET taken as of a lane, COLUMN c of CELL f + c: how many letters it has then.", () -> {
            TypeChain x = Tape.told("columns 3;");
            x.sheet(2, 0, 5);
            x.lay(2, 2, 9);
            x.lay(2, 4, 8);
            x.put(0, 1);
            x.put(1, 1);
            Edge.due("read(2, 0, 2)", x.read(2, 0, 2), 2);
            Edge.due("line(0)", x.line(0), 9);
            Edge.due("line(1): a blank is read too", x.line(1), 0);
            Edge.due("line(2)", x.line(2), 8);
            Edge.due("read(2, 0, 3): cell 5", x.read(2, 0, 3), -12);
            Edge.due("read(2, 0, 1)", x.read(2, 0, 1), 1);
            Edge.due("line(1)", x.line(1), 9);
        });
        Edge.test(31, "BAD: k, lane; -10 less the FAULT: NULL, CAST, then CELL by CELL INDEX", () -> {
            TypeChain x = narrow();
            x.sheet(0, 1, 1);
            for (int k : new int[] {LEAST, -1, 4, GREATEST}) Edge.due("read(" + k + ", 1, 0)", x.read(k, 1, 0), BAD);
            for (int lane : new int[] {LEAST, -1, 3, GREATEST}) Edge.due("read(0, " + lane + ", 0)", x.read(0, lane, 0), BAD);
            Edge.due("read(1, 3, 0) of nothing: bad before null", x.read(1, 3, 0), BAD);
            Edge.due("read(1, 1, 9) of nothing", x.read(1, 1, 9), -11);
            Edge.due("read(0, 0, 9): cast before index", x.read(0, 0, 9), -13);
            Edge.due("read(0, 2, 0)", x.read(0, 2, 0), -13);
            for (int f : new int[] {LEAST, -1, 1, GREATEST}) Edge.due("read(0, 1, " + f + ")", x.read(0, 1, f), -12);
            Edge.due("read(0, 1, 0)", x.read(0, 1, 0), 0);
            x.sheet(0, 1, 0);
            Edge.due("read(0, 1, 0) of no cells", x.read(0, 1, 0), -12);
            Edge.due("read(0, 0, 0) of no cells: cast before index", x.read(0, 0, 0), -13);
        });
        Edge.test(31, "COLUMN c of CELL f + c", () -> {
            TypeChain x = Tape.told("columns 40;");
            x.sheet(0, 0, 40);
            for (int f : new int[] {GREATEST, GREATEST - 20, GREATEST - 39, LEAST, LEAST + 20, -39, -40}) {
                Edge.due("read(0, 0, " + f + ")", x.read(0, 0, f), -12);
            }
        });
        Edge.test(31, "-20 less c: CELL f + c is not 0 to 26; the first met: then it stays as it was.", () -> {
            TypeChain x = Tape.told("columns 3;");
            x.sheet(0, 1, 5);
            for (int c = 0; c < 3; c++) x.put(c, c + 4);
            x.lay(0, 2, 27);
            x.lay(0, 3, -1);
            Edge.due("read(0, 1, 0): column 2", x.read(0, 1, 0), -22);
            Edge.due("read(0, 1, 1): column 1, the first of two", x.read(0, 1, 1), -21);
            Edge.due("read(0, 1, 2): column 0", x.read(0, 1, 2), -20);
            Edge.due("read(0, 1, 3): column 0, before cell 5", x.read(0, 1, 3), -20);
            Edge.due("read(0, 1, 4): cell 5", x.read(0, 1, 4), -12);
            Edge.due("read(0, 1, -1): cell -1, before cell 2", x.read(0, 1, -1), -12);
            for (int c = 0; c < 3; c++) Edge.due("line(" + c + ") stays", x.line(c), c + 4);
            x.lay(0, 2, 26);
            Edge.due("read(0, 1, 0) with 26", x.read(0, 1, 0), 1);
            Edge.due("line(2)", x.line(2), 26);
        });
        Edge.test(31, "-20 less c: CELL f + c is not 0 to 26", () -> {
            TypeChain x = Tape.told("columns 40;");
            x.sheet(0, 0, 40);
            x.lay(0, 39, -128);
            Edge.due("read(0, 0, 0): column 39", x.read(0, 0, 0), -59);
        });
    }

    private static void count() {
        String words = "How many: 0 letters of THE LINE, 1 unlike letters of THE CHAIN, 2 HOLES, 3 bytes on THE TAPE, "
            + "4 CELLS of SHEET 0 (NONE: nothing). BAD.";
        Edge.test(32, words, () -> {
            TypeChain x = new TypeChain();
            for (int w : new int[] {LEAST, -1, 5, 10, GREATEST}) Edge.due("count(" + w + ")", x.count(w), BAD);
            int[] first = {0, 6, 1, 0, NONE};
            for (int w = 0; w < 5; w++) Edge.due("count(" + w + ")", x.count(w), first[w]);
        });
        Edge.test(32, "0 letters of THE LINE", () -> {
            TypeChain x = Tape.told("columns 40;");
            for (int c = 0; c < 40; c++) x.put(c, 26);
            Edge.due("count(0) of a full line", x.count(0), 40);
            x.put(39, 0);
            Edge.due("count(0) with a blank", x.count(0), 39);
        });
        Edge.test(32, "1 unlike letters of THE CHAIN", () -> {
            Edge.due("count(1) of one letter", Tape.told("chain," + "z".repeat(48) + ";").count(1), 1);
            Edge.due("count(1) of all", Tape.told("chain,abcdefghijklmnopqrstuvwxyzza;").count(1), 26);
            Edge.due("count(1) of two", Tape.told("chain,zaza;").count(1), 2);
        });
        Edge.test(32, "2 HOLES", () -> {
            StringBuilder many = new StringBuilder("rows 60;");
            for (int k = 0; k < 8; k++) many.append("hole59 ").append(k).append(";hole 0 ").append(k).append(';');
            Edge.due("count(2) of 16", Tape.told(many.toString()).count(2), 16);
            Edge.due("count(2) of one told twice", Tape.told("hole 0 0;hole 0 0;").count(2), 1);
            Edge.due("count(2) of one in row 11", Tape.told("hole 11 7;").count(2), 1);
        });
        Edge.test(32, "3 bytes on THE TAPE", () -> {
            TypeChain x = new TypeChain();
            for (int i = 0; i < 31; i++) x.feed(0);
            Edge.due("count(3) of a full tape", x.count(3), 240);
            x.end(1);
            Edge.due("count(3)", x.count(3), 1);
            x.text();
            Edge.due("count(3) behind a text that was refused", x.count(3), 0);
        });
        Edge.test(32, "4 CELLS of SHEET 0 (NONE: nothing)", () -> {
            TypeChain x = new TypeChain();
            x.sheet(1, 0, 9);
            Edge.due("count(4) of nothing", x.count(4), NONE);
            x.sheet(0, 2, 0);
            Edge.due("count(4) of no cells", x.count(4), 0);
            x.sheet(0, 0, 40);
            Edge.due("count(4) of 40", x.count(4), 40);
            Tape.tell(x, "");
            Edge.due("count(4) behind a text: it tells no sheets", x.count(4), 40);
        });
    }

    public static void main(String[] args) {
        sheet();
        lay();
        read();
        count();
        Edge.finish();
    }
}

/** Promises 2 to 4 and 6 to 9: each boundary case of the tape, and of what a text that is taken tells. */
public final class EdgesOfTextTest {
    private static final int BAD = Edge.BAD, STATE = Edge.STATE, FULL = Edge.FULL;
    private static final int LEAST = Edge.LEAST, GREATEST = Edge.GREATEST;

    private EdgesOfTextTest() {
    }

    private static TypeChain fed(int times) {
        TypeChain x = new TypeChain();
        for (int i = 0; i < times; i++) x.feed(Tape.eight("", 0));
        return x;
    }

    private static void feed() {
        String words = "Eight bytes come behind THE TAPE, the highest first: how many it has.";
        Edge.test(2, words, () -> {
            TypeChain x = new TypeChain();
            Edge.due("feed of \"pitch 9;\"", x.feed(Tape.eight("pitch 9;", 0)), 8);
            Edge.due("text(): the 9 is at place 6", x.text(), -16);
        });
        Edge.test(2, words, () -> {
            TypeChain x = new TypeChain();
            x.feed(Tape.eight("go;go;go", 0));
            Edge.due("feed of \";pitch 9\"", x.feed(Tape.eight(";pitch 9", 0)), 16);
            Edge.due("text(): the 9 is at place 15", x.text(), -25);
        });
        Edge.test(2, words, () -> {
            TypeChain x = new TypeChain();
            x.feed(Tape.eight("go;", 0));
            x.end(3);
            Edge.due("feed behind 3 bytes", x.feed(Tape.eight("pitch 9;", 0)), 11);
            Edge.due("text(): the 9 is at place 9", x.text(), -19);
        });
        Edge.test(2, words, () -> {
            long[] odd = {-1L, 0L, Long.MIN_VALUE, 0x80L << 56, Tape.eight("", 0) ^ 0xa0L};
            int[] place = {0, 0, 0, 0, 7};
            for (int i = 0; i < odd.length; i++) {
                TypeChain x = new TypeChain();
                Edge.due("feed(" + odd[i] + ")", x.feed(odd[i]), 8);
                Edge.due("text() of feed(" + odd[i] + ")", x.text(), -10 - place[i]);
            }
        });
        Edge.test(2, "FULL: more than 240.", () -> {
            TypeChain x = new TypeChain();
            for (int i = 1; i <= 30; i++) Edge.due("feed " + i, x.feed(Tape.eight("", 0)), 8 * i);
            Edge.due("feed 31", x.feed(Tape.eight("", 0)), FULL);
        });
        Edge.test(2, "FULL: more than 240.", () -> {
            for (int n = 233; n <= 240; n++) {
                TypeChain x = fed(30);
                x.end(n);
                Edge.due("feed behind " + n, x.feed(0), FULL);
                Edge.due("count(3)", x.count(3), n);
            }
            TypeChain x = fed(30);
            x.end(232);
            Edge.due("feed behind 232", x.feed(0), 240);
        });
        Edge.test(2, "THE TAPE has 240 bytes, places from 0.", () -> {
            TypeChain x = new TypeChain();
            Tape.load(x, " ".repeat(237) + "go;");
            Edge.due("feed that is FULL", x.feed(-1L), FULL);
            Edge.due("text() reads the last place", x.text(), 1);
            x = new TypeChain();
            Tape.load(x, " ".repeat(239) + "?");
            Edge.due("text(): the fault is at place 239", x.text(), -249);
            x = new TypeChain();
            Tape.load(x, "?" + " ".repeat(239));
            Edge.due("text(): the fault is at place 0", x.text(), -10);
        });
    }

    private static void end() {
        Edge.test(3, "THE TAPE keeps its first n bytes: how many it had.", () -> {
            TypeChain x = new TypeChain();
            x.feed(Tape.eight("go;go;pi", 0));
            Edge.due("end(6)", x.end(6), 8);
            Edge.due("count(3)", x.count(3), 6);
            Edge.due("end(6) again", x.end(6), 6);
            Edge.due("text() of the first 6", x.text(), 2);
        });
        Edge.test(3, "THE TAPE keeps its first n bytes: how many it had.", () -> {
            TypeChain x = fed(30);
            Edge.due("end(240)", x.end(240), 240);
            Edge.due("end(0)", x.end(0), 240);
            Edge.due("end(0) of none", x.end(0), 0);
            Edge.due("count(3)", x.count(3), 0);
        });
        Edge.test(3, "THE TAPE keeps its first n bytes: how many it had. BAD.", () -> {
            for (int n : new int[] {-1, LEAST, 9, 240, 241, GREATEST}) {
                TypeChain x = fed(1);
                Edge.due("end(" + n + ") of 8", x.end(n), BAD);
                Edge.due("count(3)", x.count(3), 8);
            }
            Edge.due("end(1) of none", new TypeChain().end(1), BAD);
            Edge.due("end(-1) of none", new TypeChain().end(-1), BAD);
            Edge.due("end(241) of 240", fed(30).end(241), BAD);
        });
        Edge.test(3, "THE TAPE keeps its first n bytes: how many it had. BAD.", () -> {
            TypeChain x = fed(1);
            x.end(3);
            Edge.due("what was cut is not there any more: end(4)", x.end(4), BAD);
        });
    }

    private static void lines() {
        Edge.test(4, "text: { line }", () -> {
            Edge.taken("", 0);
            Edge.taken(" ", 0);
            Edge.taken(" ".repeat(240), 0);
            Edge.taken("go;", 1);
            Edge.taken("go;".repeat(24) + "hole0 0;".repeat(21), 45);
        });
        Edge.test(4, "THE TAPE (empty then) tells all: how many lines", () -> {
            TypeChain x = new TypeChain();
            Edge.due("text()", Tape.tell(x, "pitch 5;go;"), 2);
            Edge.due("count(3)", x.count(3), 0);
            Edge.due("text() of the empty tape", x.text(), 0);
            Edge.due("rule(1) is as at first", x.rule(1), 3);
            Edge.due("feed behind none", x.feed(0), 8);
        });
        Edge.test(4, "-10 less the place of its FAULT: that which was told stays.", () -> {
            TypeChain x = Tape.told("pitch 5;go;");
            Edge.due("a fault at place 0", Tape.tell(x, "x"), -10);
            Edge.due("count(3): the tape is empty all the same", x.count(3), 0);
            Edge.due("rule(1)", x.rule(1), 5);
            Edge.due("rule(8)", x.rule(8), 1);
            Edge.due("a fault at place 240", Tape.tell(x, " ".repeat(238) + "go"), -250);
            Edge.due("count(3)", x.count(3), 0);
            Edge.due("rule(1)", x.rule(1), 5);
        });
        Edge.test(4, "-10 less the place of its FAULT: that which was told stays.", () -> {
            TypeChain x = Tape.told("chain,ba;gap 5;hole 3 2;put,ab 1;");
            Tape.tell(x, "chain,xyz;pitch 6;gap 6;columns 3;power 3;start 9;step 9;rows 4;hole 1 1;put,x 0;go;oh");
            int[] rules = {2, 3, 5, 20, 40, 3, 2, 12, 1};
            for (int i = 0; i < rules.length; i++) Edge.due("rule(" + i + ")", x.rule(i), rules[i]);
            Edge.due("slug(0)", x.slug(0), 2);
            Edge.due("slug(2)", x.slug(2), BAD);
            Edge.due("holes(1)", x.holes(1), 0);
            Edge.due("holes(3)", x.holes(3), 4);
            Edge.due("order(0, 10)", x.order(0, 10), 1);
            Edge.due("order(1, 0)", x.order(1, 0), BAD);
        });
        Edge.test(4, "Behind all: 6 a hole in a ROW that there is not", () -> {
            TypeChain x = Tape.told("rows 20;columns 9;");
            Edge.due("text() that is refused behind all", Tape.tell(x, "rows 5;columns 3;hole 5 0;"), -32);
            Edge.due("rule(7)", x.rule(7), 20);
            Edge.due("rule(3)", x.rule(3), 9);
            Edge.due("holes(5)", x.holes(5), 0);
        });
    }

    private static void tokens() {
        Edge.test(4, "TOKENS, each as long as may be", () -> {
            Edge.taken("pitch3;gap2;put,a0;", 3);
            Edge.taken("columns 40;", 1);
            Edge.faulty("gogo;", 2, 0);
            Edge.faulty("pitchgap 3;", 2, 0);
            TypeChain x = Tape.told("put,ab12;");
            Edge.due("order(0, 1)", x.order(0, 1), 12);
            Edge.due("order(0, 2)", x.order(0, 2), 2);
        });
        Edge.test(4, "blanks (32) between", () -> {
            Edge.taken("   hole   0   7   ;   put   ,   ab   0   ;   ", 2);
            Edge.taken("go;go;", 2);
            Edge.faulty("pi tch 3;", 2, 0);
            Edge.faulty("columns 1 2;", 2, 10);
            Edge.faulty("go" + (char) 31 + ";", 1, 2);
            Edge.faulty("go" + (char) 33 + ";", 1, 2);
            Edge.faulty("go" + (char) 160 + ";", 1, 2);
        });
        Edge.test(4, "NUMBERS (1 or 2 figures)", () -> {
            Edge.taken("pitch 3;", 1);
            Edge.taken("pitch 03;", 1);
            Edge.faulty("pitch 003;", 1, 6);
            Edge.due("rule(1) of 06", Tape.told("pitch 06;").rule(1), 6);
            Edge.due("rule(5) of 00", Tape.told("start 00;").rule(5), 0);
            Edge.due("rule(7) of 60", Tape.told("rows 60;").rule(7), 60);
            Edge.due("rule(7) of 09", Tape.told("rows 09;").rule(7), 9);
        });
        Edge.test(4, "LETTERS: a NAME (chain: 2 to 48 letters).", () -> {
            Edge.faulty("chain,a;", 3, 6);
            Edge.taken("chain,az;", 1);
            Edge.taken("chain," + "az".repeat(24) + ";", 1);
            Edge.faulty("chain," + "a".repeat(49) + ";", 3, 6);
            Edge.faulty("chain," + "a".repeat(233) + ";", 3, 6);
            Edge.taken("chain,chain;put,put 0;put,go 3;put,a 5;", 4);
            Edge.taken("columns 40;put," + "z".repeat(40) + " 0;", 2);
        });
    }

    private static void allIsTold() {
        String words = "A text that is taken tells all: what is not told is as at first";
        Edge.test(4, words, () -> {
            TypeChain x = Tape.told("chain,zy;pitch 5;gap 5;columns 5;power 5;start 5;step 5;rows 5;hole 4 5;go;");
            Edge.due("text()", Tape.tell(x, ""), 0);
            int[] rules = {6, 3, 2, 20, 40, 3, 2, 12, 0};
            for (int i = 0; i < rules.length; i++) Edge.due("rule(" + i + ")", x.rule(i), rules[i]);
            for (int i = 0; i < 6; i++) Edge.due("slug(" + i + ")", x.slug(i), i + 1);
            for (int r = 0; r < 12; r++) Edge.due("holes(" + r + ")", x.holes(r), r == 0 ? 1 : 0);
            Edge.due("order(0, 0)", x.order(0, 0), BAD);
        });
        Edge.test(4, words, () -> {
            String[] lines = {"chain,ab;", "pitch 5;", "gap 5;", "columns 5;", "power 5;", "start 5;", "step 5;", "rows 5;", "go;"};
            int[] first = {6, 3, 2, 20, 40, 3, 2, 12, 0};
            int[] told = {2, 5, 5, 5, 5, 5, 5, 5, 1};
            TypeChain x = new TypeChain();
            for (int n = 0; n < lines.length; n++) {
                Tape.tell(x, lines[n]);
                for (int i = 0; i < 9; i++) Edge.due(lines[n] + " rule(" + i + ")", x.rule(i), i == n ? told[i] : first[i]);
            }
        });
        Edge.test(4, words, () -> {
            TypeChain x = new TypeChain();
            for (int n = 1; n <= 4; n++) {
                String orders = "put,xyz 1;go;skip 0;".repeat(n);
                Edge.due("a text that is refused", Tape.tell(x, "chain,zy;rows 9;hole 8 7;" + orders + "?") < 0 ? 1 : 0, 1);
                Edge.due("the next, that is taken", Tape.tell(x, "space 3;put,abcdef 2;"), 2);
                Edge.due("rule(0)", x.rule(0), 6);
                Edge.due("rule(7)", x.rule(7), 12);
                Edge.due("rule(8)", x.rule(8), 2);
                Edge.due("holes(8)", x.holes(8), 0);
                Edge.due("count(2)", x.count(2), 1);
                Edge.due("order(0, 0)", x.order(0, 0), 2);
                Edge.due("order(1, 15)", x.order(1, 15), 6);
                Edge.due("order(2, 0)", x.order(2, 0), BAD);
            }
        });
        Edge.test(4, words, () -> {
            TypeChain x = new TypeChain();
            for (char letter = 'p'; letter <= 'u'; letter++) {
                String put = "put," + ("" + letter).repeat(40) + "0;";
                Edge.due("a text of many letters", Tape.tell(x, "columns 40;" + put.repeat(4)), 5);
                Edge.due("rule(8)", x.rule(8), 4);
                Edge.due("order(0, 10)", x.order(0, 10), letter - 'a' + 1);
                Edge.due("order(3, 49)", x.order(3, 49), letter - 'a' + 1);
                Edge.due("run()", x.run(), 4);
                Edge.due("line(39)", x.line(39), letter - 'a' + 1);
            }
        });
        Edge.test(4, "(holes: if none is told, the one in ROW 0)", () -> {
            TypeChain x = Tape.told("hole 11 7;");
            Edge.due("holes(0)", x.holes(0), 0);
            Edge.due("holes(11)", x.holes(11), 128);
            Tape.tell(x, "pitch 3;");
            Edge.due("holes(0)", x.holes(0), 1);
            Edge.due("holes(11)", x.holes(11), 0);
            Edge.due("holes(0) of one row", Tape.told("rows 1;").holes(0), 1);
            Edge.due("holes(0) if it is told", Tape.told("hole 0 7;").holes(0), 128);
        });
        Edge.test(4, "put, go, space, skip are THE PROGRAM (24 ORDERS).", () -> {
            TypeChain x = Tape.told("pitch 3;put,a 0;hole 1 1;go;space 1;skip 1;power 9;");
            Edge.due("rule(8)", x.rule(8), 4);
            for (int k = 0; k < 4; k++) Edge.due("order(" + k + ", 0)", x.order(k, 0), k);
            Edge.due("rule(8) of 24", Tape.told("go;".repeat(24)).rule(8), 24);
        });
        Edge.test(4, "The paper stands at ROW 0, PAGES 1, all BLANK, THE LINE too; TICK 0.", () -> {
            TypeChain x = Tape.told("rows 3;put,ab 0;go;space 4;put,c 5;go;");
            x.run();
            x.put(7, 9);
            Edge.due("now(0) before", x.now(0) > 0 ? 1 : 0, 1);
            Edge.due("now(1) before", x.now(1), 1);
            Edge.due("now(2) before", x.now(2), 2);
            Edge.due("now(3) before", x.now(3), 1);
            Edge.due("text()", Tape.tell(x, "rows 3;"), 1);
            int[] now = {0, 0, 1, 0, 0};
            for (int i = 0; i < 5; i++) Edge.due("now(" + i + ")", x.now(i), now[i]);
            for (int c = 0; c < 20; c++) Edge.due("line(" + c + ")", x.line(c), 0);
            Edge.due("page(1, 5, 0)", x.page(1, 5, 0), 0);
            Edge.due("page(1, 5, 1)", x.page(1, 5, 1), 0);
            Edge.due("count(0)", x.count(0), 0);
        });
        // what is not told is as at first: so is the latest line, as no line was struck at first
        Edge.test(4, words, () -> {
            TypeChain x = new TypeChain();
            x.put(0, 1);
            x.go();
            x.seen(0, 2);
            Edge.due("struck(0) before", x.struck(0), 1);
            Tape.tell(x, "");
            Edge.due("struck(0)", x.struck(0), STATE);
            Edge.due("slips(0)", x.slips(0), STATE);
            Edge.due("seen(0, 1)", x.seen(0, 1), -12);
        });
    }

    private static void rule() {
        Edge.test(6, "8 ORDERS of THE PROGRAM. BAD.", () -> {
            TypeChain x = new TypeChain();
            for (int what : new int[] {LEAST, -1, 9, 10, GREATEST}) Edge.due("rule(" + what + ")", x.rule(what), BAD);
            Edge.due("rule(0)", x.rule(0), 6);
            Edge.due("rule(8)", x.rule(8), 0);
        });
        Edge.test(6, "What holds: 0 SLUGS, 1 PITCH, 2 GAP, 3 COLUMNS, 4 POWER, 5 START, 6 STEP, 7 ROWS", () -> {
            TypeChain low = Tape.told("chain,zz;pitch 2;gap 1;columns 1;power 1;start 0;step 1;rows 1;");
            int[] least = {2, 2, 1, 1, 1, 0, 1, 1, 0};
            for (int i = 0; i < 9; i++) Edge.due("rule(" + i + "), the least", low.rule(i), least[i]);
            TypeChain high = Tape.told("chain," + "z".repeat(48) + ";pitch 6;gap 6;columns 40;power 40;start 20;step 20;rows 60;"
                + "go;".repeat(24));
            int[] most = {48, 6, 6, 40, 40, 20, 20, 60, 24};
            for (int i = 0; i < 9; i++) Edge.due("rule(" + i + "), the most", high.rule(i), most[i]);
        });
    }

    private static void slug() {
        Edge.test(7, "The letter of a SLUG. BAD.", () -> {
            TypeChain x = Tape.told("chain,za;");
            Edge.due("slug(0)", x.slug(0), 26);
            Edge.due("slug(1)", x.slug(1), 1);
            for (int i : new int[] {LEAST, -1, 2, 5, 48, GREATEST}) Edge.due("slug(" + i + ") of 2", x.slug(i), BAD);
        });
        Edge.test(7, "L SLUGS (2 to 48) with a letter each (a is 1, .. z 26; BLANK is 0)", () -> {
            TypeChain x = Tape.told("chain,abcdefghijklmnopqrstuvwxyzabcdefghijklmnopqrstuv;");
            for (int i = 0; i < 48; i++) Edge.due("slug(" + i + ")", x.slug(i), i % 26 + 1);
            Edge.due("slug(48)", x.slug(48), BAD);
            Tape.tell(x, "chain,zyx;");
            Edge.due("slug(2) of a shorter chain", x.slug(2), 24);
            Edge.due("slug(3) of a shorter chain", x.slug(3), BAD);
        });
    }

    private static void holes() {
        Edge.test(8, "CHANNELS of a ROW that have a HOLE (bits). BAD.", () -> {
            TypeChain x = new TypeChain();
            for (int r : new int[] {LEAST, -1, 12, 13, 59, 60, GREATEST}) Edge.due("holes(" + r + ") of 12", x.holes(r), BAD);
            Edge.due("holes(11)", x.holes(11), 0);
            TypeChain y = Tape.told("rows 60;hole 59 0;");
            Edge.due("holes(59) of 60", y.holes(59), 1);
            Edge.due("holes(60) of 60", y.holes(60), BAD);
            TypeChain z = Tape.told("rows 1;");
            Edge.due("holes(0) of 1", z.holes(0), 1);
            Edge.due("holes(1) of 1", z.holes(1), BAD);
        });
        Edge.test(8, "a HOLE or none for each ROW and CHANNEL (0 to 7", () -> {
            StringBuilder all = new StringBuilder();
            for (int k = 0; k < 8; k++) all.append("hole 3 ").append(k).append(';');
            Edge.due("holes(3) of all channels", Tape.told(all.toString()).holes(3), 255);
            for (int k = 0; k < 8; k++) Edge.due("a hole in channel " + k, Tape.told("hole 5 " + k + ";").holes(5), 1 << k);
            TypeChain x = Tape.told("hole 2 4;hole 2 4;");
            Edge.due("holes(2), told twice", x.holes(2), 16);
            Edge.due("count(2), told twice", x.count(2), 1);
        });
    }

    private static void order() {
        String words = "Of an ORDER: 0 put, go, space, skip (0 to 3), 1 its NUMBER (go: 0), 2 how many LETTERS (put; else 0)";
        Edge.test(9, words, () -> {
            TypeChain x = Tape.told("go;space 9;space 0;skip 7;skip 0;put,zza 17;put,b 0;");
            int[][] due = {{1, 0, 0}, {2, 9, 0}, {2, 0, 0}, {3, 7, 0}, {3, 0, 0}, {0, 17, 3}, {0, 0, 1}};
            for (int k = 0; k < due.length; k++) {
                for (int what = 0; what < 3; what++) Edge.due("order(" + k + ", " + what + ")", x.order(k, what), due[k][what]);
            }
        });
        Edge.test(9, "10 and i: LETTER i of a put. BAD.", () -> {
            TypeChain x = Tape.told("columns 40;put," + "az".repeat(20) + " 0;put,q 39;go;space 3;skip 2;");
            for (int i = 0; i < 40; i++) Edge.due("order(0, " + (10 + i) + ")", x.order(0, 10 + i), i % 2 == 0 ? 1 : 26);
            Edge.due("order(0, 50)", x.order(0, 50), BAD);
            Edge.due("order(1, 10)", x.order(1, 10), 17);
            Edge.due("order(1, 11)", x.order(1, 11), BAD);
            for (int k = 2; k < 5; k++) Edge.due("order(" + k + ", 10)", x.order(k, 10), BAD);
        });
        Edge.test(9, "Of an ORDER:", () -> {
            TypeChain x = Tape.told("put,abc 0;");
            for (int what : new int[] {LEAST, -1, 3, 9, 13, GREATEST}) Edge.due("order(0, " + what + ")", x.order(0, what), BAD);
            for (int k : new int[] {LEAST, -1, 1, 24, GREATEST}) Edge.due("order(" + k + ", 0)", x.order(k, 0), BAD);
        });
        Edge.test(9, "THE PROGRAM (24 ORDERS)", () -> {
            TypeChain x = Tape.told("go;".repeat(23) + "space 8;");
            Edge.due("order(22, 0)", x.order(22, 0), 1);
            Edge.due("order(23, 0)", x.order(23, 0), 2);
            Edge.due("order(23, 1)", x.order(23, 1), 8);
            Edge.due("order(24, 0)", x.order(24, 0), BAD);
            Tape.tell(x, "skip 0;");
            Edge.due("order(0, 0) of a shorter one", x.order(0, 0), 3);
            Edge.due("order(1, 0) of a shorter one", x.order(1, 0), BAD);
        });
    }

    public static void main(String[] args) {
        feed();
        end();
        lines();
        tokens();
        allIsTold();
        rule();
        slug();
        holes();
        order();
        Edge.finish();
    }
}

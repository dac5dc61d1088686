/** Promises 4 and 5: each FAULT of a text, where it begins and ends, and its place. */
public final class EdgesOfFaultTest {
    /** Each kind of line, token by token; NAMES and NUMBERS that can stand there. */
    private static final String[][] LINES = {
        {"chain", ",", "ab", ";"}, {"pitch", "3", ";"}, {"gap", "2", ";"}, {"columns", "20", ";"}, {"power", "40", ";"},
        {"start", "3", ";"}, {"step", "2", ";"}, {"rows", "12", ";"}, {"hole", "1", "2", ";"}, {"put", ",", "ab", "3", ";"},
        {"go", ";"}, {"space", "4", ";"}, {"skip", "0", ";"}};

    private EdgesOfFaultTest() {
    }

    private static boolean isNamed(String token) {
        return token.charAt(0) >= 'a' && token.charAt(0) <= 'z';
    }

    private static boolean isFigures(String token) {
        return token.charAt(0) >= '0' && token.charAt(0) <= '9';
    }

    private static boolean canStandFor(String token, String other) {
        return token.equals(other) || isNamed(token) && isNamed(other) || isFigures(token) && isFigures(other);
    }

    private static String first(String[] line, int tokens) {
        StringBuilder b = new StringBuilder();
        for (int i = 0; i < tokens; i++) b.append(line[i]).append(' ');
        return b.toString();
    }

    private static void noToken() {
        Edge.test(5, "1 no TOKEN", () -> {
            for (int b = 0; b < 256; b++) {
                char sign = (char) b;
                boolean isToken = sign >= 'a' && sign <= 'z' || sign >= '0' && sign <= '9' || sign == ';' || sign == ',';
                if (sign == ' ') Edge.taken("go;" + sign, 1);
                else Edge.faulty("go;" + sign, isToken ? 2 : 1, 3);
            }
        });
        // the point behind "one of ; ," is read as the end of that sentence
        Edge.test(5, "one of ; , .", () -> Edge.faulty("go.", 1, 2));
        Edge.test(5, "1 no TOKEN", () -> {
            Edge.faulty("?", 1, 0);
            Edge.faulty("go?;", 1, 2);
            Edge.faulty("gO;", 2, 0);
            Edge.faulty("go;Go;", 1, 3);
            Edge.faulty("pitch -3;", 1, 6);
            Edge.faulty("pitch 3?", 1, 7);
            Edge.faulty("chain,?ab;", 1, 6);
            Edge.faulty("chain,ab?;", 1, 8);
            Edge.faulty(" ".repeat(239) + "?", 1, 239);
            for (String[] line : LINES) {
                for (int i = 0; i < line.length; i++) Edge.faulty(first(line, i) + "?", 1, first(line, i).length());
            }
        });
        Edge.test(5, "a NUMBER that is too long (its first byte)", () -> {
            Edge.faulty("pitch 003;", 1, 6);
            Edge.faulty("pitch   100;", 1, 8);
            Edge.faulty("hole 000 1;", 1, 5);
            Edge.faulty("hole 0 001;", 1, 7);
            Edge.faulty("put,a 000;", 1, 6);
            Edge.faulty("space 000", 1, 6);
            Edge.faulty("go;" + "1".repeat(237), 1, 3);
            Edge.faulty(" ".repeat(237) + "123", 1, 237);
            Edge.taken("space 00;", 1);
        });
        Edge.test(5, "a NUMBER that is too long (its first byte)", () -> {
            Edge.faulty("123;", 1, 0);
            Edge.faulty("go 123;", 1, 3);
            Edge.faulty("chain,123;", 1, 6);
            Edge.faulty("pitch 3 123;", 1, 8);
        });
    }

    private static void oneByOne() {
        String words = "FAULTS, the first met as it is read (a TOKEN is read when the one before has been taken)";
        Edge.test(5, words, () -> {
            Edge.faulty("pitch 9?", 3, 6);
            Edge.faulty("pitch 9", 3, 6);
            Edge.faulty("pitch 9 123", 3, 6);
            Edge.faulty("nothing?", 2, 0);
            Edge.faulty("pitch;?", 2, 5);
            Edge.faulty("chain,a?", 3, 6);
            Edge.faulty("hole 60?", 3, 5);
            Edge.faulty("hole 60 8;", 3, 5);
            Edge.faulty("hole 1 8?", 3, 7);
            Edge.faulty("put,a 40?", 3, 6);
            Edge.faulty("gap 2;gap?", 4, 6);
            Edge.faulty("gap 2;gap 9;", 4, 6);
            Edge.faulty("chain,ab;chain,a;", 4, 9);
            Edge.faulty("go;".repeat(24) + "go?", 5, 72);
            Edge.faulty("go;".repeat(24) + "space 10;", 5, 72);
        });
        Edge.test(5, words, () -> {
            Edge.faulty("pitch 9;gap 9;", 3, 6);
            Edge.faulty("gap 1;gap 1;?", 4, 6);
            Edge.faulty("go;".repeat(25) + "?", 5, 72);
            Edge.faulty("?pitch 9;", 1, 0);
            Edge.faulty("go,pitch 9;", 2, 2);
        });
        Edge.test(5, "Behind all: 6 a hole in a ROW that there is not, 7 a put that goes beyond the COLUMNS", () -> {
            Edge.faulty("hole 12 0;pitch 9;", 3, 16);
            Edge.faulty("put,ab 19;pitch 9;", 3, 16);
            Edge.faulty("hole 12 0;go", 2, 12);
            Edge.faulty("hole 12 0;?", 1, 10);
            Edge.faulty("put,ab 19;gap 2;gap 2;", 4, 16);
            Edge.faulty("put,ab 19;" + "go;".repeat(24), 5, 79);
        });
    }

    private static void standing() {
        String words = "2 a TOKEN that can not stand there (a NAME that begins no line; or the end: the length)";
        Edge.test(5, words, () -> {
            for (String[] line : LINES) {
                Edge.taken(first(line, line.length), 1);
                for (int i = 0; i < line.length; i++) {
                    String before = first(line, i);
                    for (String other : new String[] {"q", "1", ",", ";"}) {
                        if (i > 0 && canStandFor(line[i], other)) continue;
                        Edge.faulty(before + other + " ;", 2, before.length());
                    }
                }
            }
        });
        Edge.test(5, words, () -> {
            for (String[] line : LINES) {
                for (int i = 1; i < line.length; i++) {
                    String cut = first(line, i).trim();
                    Edge.faulty(cut, 2, cut.length());
                    Edge.faulty(cut + "    ", 2, cut.length() + 4);
                    Edge.faulty("go;" + cut, 2, cut.length() + 3);
                }
            }
            Edge.faulty(" ".repeat(238) + "go", 2, 240);
            Edge.faulty("go" + " ".repeat(238), 2, 240);
        });
        Edge.test(5, words, () -> {
            for (String[] line : LINES) {
                String rest = first(line, line.length).substring(line[0].length());
                Edge.faulty(line[0] + "s" + rest, 2, 0);
                Edge.faulty(line[0].substring(0, line[0].length() - 1) + rest, 2, 0);
                Edge.faulty(line[0].substring(1) + rest, 2, 0);
                Edge.faulty("a" + line[0] + rest, 2, 0);
                for (int i = 0; i < line[0].length(); i++) {
                    Edge.faulty(line[0].substring(0, i) + "q" + line[0].substring(i + 1) + rest, 2, 0);
                }
            }
            for (String name : new String[] {"a", "text", "line", "letters", "slug", "tick", "columnsa", "z".repeat(240)}) {
                Edge.faulty(name, 2, 0);
            }
        });
        Edge.test(5, words, () -> {
            Edge.faulty("go;;", 2, 3);
            Edge.faulty(";", 2, 0);
            Edge.faulty("go;go", 2, 5);
            Edge.faulty("put,a 0 1;", 2, 8);
            Edge.faulty("hole 0 0 0;", 2, 9);
            Edge.faulty("chain,ab cd;", 2, 9);
        });
    }

    private static void bounds(String words, String before, int low, int high, String behind) {
        Edge.test(5, words, () -> {
            int place = before.length();
            int lines = behind.split(";", -1).length - 1;
            if (low > 0) Edge.faulty(before + (low - 1) + behind, 3, place);
            if (low > 0) Edge.faulty(before + "0" + behind, 3, place);
            Edge.taken(before + low + behind, lines);
            Edge.taken(before + high + behind, lines);
            Edge.faulty(before + (high + 1) + behind, 3, place);
            Edge.faulty(before + "99" + behind, 3, place);
        });
    }

    private static void outOfBounds() {
        bounds("PITCH p (2 to 6; 3)", "pitch ", 2, 6, ";");
        bounds("GAP q (1 to 6; 2)", "gap ", 1, 6, ";");
        bounds("(C 1 to 40; 20)", "columns ", 1, 40, ";");
        bounds("POWER (1 to 40; 40)", "power ", 1, 40, ";");
        bounds("START 0 to 20, 3 at first", "start ", 0, 20, ";");
        bounds("STEP 1 to 20, 2 at first", "step ", 1, 20, ";");
        bounds("FORM: n ROWS (1 to 60; 12)", "rows ", 1, 60, ";");
        bounds("space: 0 to 9 ROWS.", "space ", 0, 9, ";");
        bounds("skip: to a CHANNEL.", "skip ", 0, 7, ";");
        bounds("each ROW and CHANNEL (0 to 7", "hole 0 ", 0, 7, ";");
        bounds("3 a NUMBER out of its bounds (a ROW below 60, a COLUMN below 40)", "hole ", 0, 59, " 0;rows 60;");
        bounds("3 a NUMBER out of its bounds (a ROW below 60, a COLUMN below 40)", "put,a ", 0, 39, ";columns 40;");
        Edge.test(5, "(a ROW below 60, a COLUMN below 40)", () -> {
            Edge.faulty("rows 5;hole 59 0;", 6, 12);
            Edge.faulty("rows 5;hole 60 0;", 3, 12);
            Edge.faulty("columns 5;put,a 39;", 7, 16);
            Edge.faulty("columns 5;put,a 40;", 3, 16);
        });
        Edge.test(5, "LETTERS of a chain that are too few or too many", () -> {
            Edge.faulty("chain,z;", 3, 6);
            Edge.taken("chain,zz;", 1);
            Edge.taken("chain," + "m".repeat(48) + ";", 1);
            Edge.faulty("chain," + "m".repeat(49) + ";", 3, 6);
            Edge.faulty("chain  ,  z;", 3, 10);
            Edge.taken("put,z 0;", 1);
            Edge.faulty("put," + "m".repeat(49) + " 0;", 7, 54);
        });
    }

    private static void toldAlready() {
        String words = "4 what is told already (its NAME; not hole, put, go, space, skip)";
        Edge.test(5, words, () -> {
            for (int i = 0; i < 8; i++) {
                String line = first(LINES[i], LINES[i].length);
                Edge.faulty(line + line, 4, line.length());
                Edge.faulty(line + "go;  " + line, 4, line.length() + 5);
                Edge.faulty(line + LINES[i][0], 4, line.length());
            }
        });
        Edge.test(5, words, () -> {
            for (int i = 8; i < LINES.length; i++) {
                String line = first(LINES[i], LINES[i].length);
                Edge.taken(line + line + line, 3);
            }
        });
        Edge.test(5, words, () -> {
            StringBuilder all = new StringBuilder();
            for (int i = 0; i < 8; i++) all.append(first(LINES[i], LINES[i].length));
            Edge.taken(all.toString(), 8);
            TypeChain x = new TypeChain();
            Tape.tell(x, "pitch 4;");
            Edge.due("told by the text before is not told already", Tape.tell(x, "pitch 5;"), 1);
            Tape.tell(x, "gap 3;?");
            Edge.due("told by a text that was refused is not told already", Tape.tell(x, "gap 5;"), 1);
        });
    }

    private static void tooMany() {
        String words = "5 the 25th of put, go, space, skip (its NAME)";
        String[] kinds = {"put,a 0;", "go;", "space 1;", "skip 0;"};
        Edge.test(5, words, () -> {
            for (String kind : kinds) {
                Edge.taken("go;".repeat(23) + kind, 24);
                Edge.faulty("go;".repeat(24) + kind, 5, 72);
                Edge.faulty("go;".repeat(24) + "   " + kind, 5, 75);
                Edge.taken(kind.repeat(24), 24);
                Edge.faulty(kind.repeat(24) + kind, 5, kind.length() * 24);
            }
        });
        Edge.test(5, words, () -> {
            String mixed = (kinds[0] + kinds[1] + kinds[2] + kinds[3]).repeat(6);
            Edge.taken(mixed, 24);
            Edge.faulty(mixed + "go;", 5, mixed.length());
            Edge.taken("go;".repeat(24) + "hole 0 0;pitch 3;chain,ab;", 27);
            Edge.taken("hole0 0;".repeat(20) + "go;".repeat(24), 44);
        });
    }

    private static void behindAll() {
        Edge.test(5, "6 a hole in a ROW that there is not", () -> {
            Edge.taken("hole 11 0;", 1);
            Edge.faulty("hole 12 0;", 6, 5);
            Edge.taken("rows 1;hole 0 0;", 2);
            Edge.faulty("rows 1;hole 1 0;", 6, 12);
            Edge.taken("hole 59 0;rows 60;", 2);
            Edge.faulty("hole 59 0;rows 59;", 6, 5);
            Edge.taken("hole 4 0;rows 5;", 2);
            Edge.faulty("hole 5 0;rows 5;", 6, 5);
        });
        Edge.test(5, "7 a put that goes beyond the COLUMNS", () -> {
            Edge.taken("put,a 19;", 1);
            Edge.faulty("put,a 20;", 7, 6);
            Edge.taken("put,ab 18;", 1);
            Edge.faulty("put,ab 19;", 7, 7);
            Edge.taken("put," + "a".repeat(20) + " 0;", 1);
            Edge.faulty("put," + "a".repeat(21) + " 0;", 7, 26);
            Edge.taken("columns 40;put," + "a".repeat(40) + " 0;", 2);
            Edge.faulty("columns 40;put," + "a".repeat(41) + " 0;", 7, 57);
            Edge.taken("put,a 0;columns 1;", 2);
            Edge.faulty("put,a 1;columns 1;", 7, 6);
            Edge.faulty("put," + "a".repeat(233) + "39;", 7, 237);
        });
        Edge.test(5, "(both: LINE by LINE; the place of its first NUMBER)", () -> {
            Edge.faulty("put,ab 19;hole 12 0;", 7, 7);
            Edge.faulty("hole 12 0;put,ab 19;", 6, 5);
            Edge.faulty("hole 11 0;hole 12 0;hole 13 0;", 6, 15);
            Edge.faulty("put,ab 18;put,ab 19;put,ab 20;", 7, 17);
            Edge.faulty("hole   12   7;", 6, 7);
            Edge.faulty("put  ,  ab  19;", 7, 12);
            Edge.faulty("put,a0;".repeat(24) + "hole0 0;".repeat(7) + "hole12 0;", 6, 228);
            Edge.faulty("hole0 0;".repeat(28) + "put,a20;", 7, 229);
        });
    }

    private static void latest() {
        Edge.test(5, "The FAULT of the latest text(); 0.", () -> {
            TypeChain x = new TypeChain();
            Edge.due("fault() of none", x.fault(), 0);
            Tape.tell(x, "pitch 9;");
            Edge.due("fault()", x.fault(), 3);
            Edge.due("fault() again", x.fault(), 3);
            x.feed(0);
            x.end(0);
            x.run();
            Edge.due("fault() behind other calls", x.fault(), 3);
            Tape.tell(x, "go");
            Edge.due("fault() of another", x.fault(), 2);
            Tape.tell(x, "go;");
            Edge.due("fault() of one that is taken", x.fault(), 0);
            Tape.tell(x, "hole 12 0;");
            Edge.due("fault() behind all", x.fault(), 6);
            x.text();
            Edge.due("fault() of an empty tape", x.fault(), 0);
        });
    }

    public static void main(String[] args) {
        noToken();
        oneByOne();
        standing();
        outOfBounds();
        toldAlready();
        tooMany();
        behindAll();
        latest();
        Edge.finish();
    }
}

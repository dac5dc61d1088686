/** For each promise of the document its ordinary inputs, its edges and wrong inputs, worked out by hand. */
public final class PromiseTest {
    private static final int BAD = -1, STATE = -2, FULL = -3, NONE = -4;
    private static int wrong = 0, held = 0, promise = 0;

    private static void due(String what, int got, int want) {
        held++;
        if (got != want) {
            wrong++;
            System.out.println("promise " + promise + ": " + what + " answered " + got + ", due is " + want);
        }
    }

    private static void faulty(String s, int fault, int place) {
        TypeChain x = Tape.told("pitch 5;space 1;");
        due("text of \"" + s + "\"", Tape.tell(x, s), -10 - place);
        due("fault() of \"" + s + "\"", x.fault(), fault);
        due("rule(1) behind it", x.rule(1), 5);
        due("rule(8) behind it", x.rule(8), 1);
        due("count(3) behind it", x.count(3), 0);
    }

    private static void good(String s, int lines) {
        TypeChain x = new TypeChain();
        due("text of \"" + s + "\"", Tape.tell(x, s), lines);
        due("fault() of \"" + s + "\"", x.fault(), 0);
        due("count(3) behind it", x.count(3), 0);
    }

    private static void asAtFirst(TypeChain x) {
        int[] rules = {6, 3, 2, 20, 40, 3, 2, 12, 0};
        for (int i = 0; i < rules.length; i++) due("rule(" + i + ")", x.rule(i), rules[i]);
        for (int i = 0; i < 6; i++) due("slug(" + i + ")", x.slug(i), i + 1);
        for (int r = 0; r < 12; r++) due("holes(" + r + ")", x.holes(r), r == 0 ? 1 : 0);
        for (int c = 0; c < 20; c++) due("line(" + c + ")", x.line(c), 0);
        for (int r = 0; r < 12; r++) for (int c = 0; c < 20; c++) due("page", x.page(r, c, 0) + x.page(r, c, 1), 0);
        int[] now = {0, 0, 1, 0, 0};
        for (int i = 0; i < now.length; i++) due("now(" + i + ")", x.now(i), now[i]);
        int[] count = {0, 6, 1, 0};
        for (int i = 0; i < count.length; i++) due("count(" + i + ")", x.count(i), count[i]);
        due("fault()", x.fault(), 0);
        due("struck(0)", x.struck(0), STATE);
        due("ran(0)", x.ran(0), STATE);
        due("best(0)", x.best(0), STATE);
        due("twice(0)", x.twice(0), -1000002);
    }

    private static void newObject() {
        promise = 1;
        TypeChain x = new TypeChain();
        asAtFirst(x);
        for (int k = 0; k < 4; k++) due("lay(" + k + ", 0, 0)", x.lay(k, 0, 0), -11);
    }

    private static void feed() {
        promise = 2;
        TypeChain x = new TypeChain();
        for (int i = 1; i <= 30; i++) due("feed " + i, x.feed(0x676f3b2020202020L), 8 * i);
        due("feed 31", x.feed(0), FULL);
        due("count(3)", x.count(3), 240);
        x.end(233);
        due("feed at 233", x.feed(0), FULL);
        x.end(232);
        due("feed at 232", x.feed(0x676f3b2020202020L), 240);
        x.end(0);
        due("highest first", x.feed(0x676f3b3b20202020L), 8);
        due("go; and a sign too many", x.text(), -13);
        due("a byte above 127", x.feed(0xe76f3b2020202020L), 8);
        due("it is no token", x.text(), -10);
        due("its fault", x.fault(), 1);
    }

    private static void end() {
        promise = 3;
        TypeChain x = new TypeChain();
        due("end(0)", x.end(0), 0);
        due("end(1)", x.end(1), BAD);
        x.feed(0x676f3b676f3b676fL);
        due("end(-1)", x.end(-1), BAD);
        due("end(9)", x.end(9), BAD);
        due("count(3)", x.count(3), 8);
        due("end(8)", x.end(8), 8);
        due("end(6)", x.end(6), 8);
        due("end(7)", x.end(7), BAD);
        due("end(6) again", x.end(6), 6);
        due("text()", x.text(), 2);
        x.feed(0x676f676f676f676fL);
        x.end(2);
        due("a name that is cut: go, and then the end", x.text(), -12);
        Tape.load(x, "pitch 33");
        x.end(7);
        due("a number that is cut: 3, and then the end", x.text(), -17);
        due("its fault", x.fault(), 2);
        Tape.load(x, "put,a 0;go;".repeat(12) + "pitch 3;".repeat(13) + "chai");
        due("a full tape", x.text(), -10 - 140);
        Tape.load(x, " ".repeat(238) + "go");
        due("a name at the tape's last place", x.text(), -10 - 240);
        Tape.load(x, " ".repeat(232) + "pitch 12");
        due("a number at the tape's last place", x.text(), -10 - 238);
        due("its fault", x.fault(), 3);
    }

    private static void text() {
        promise = 4;
        good("", 0);
        good("    ", 0);
        good("go;", 1);
        good("  go  ;  ", 1);
        good("pitch3;gap2;", 2);
        good("pitch 02;", 1);
        good("chain,ab;put,a0;", 2);
        good("chain , " + "z".repeat(48) + " ;", 1);
        good("chain,chain;put,put 0;", 2);
        good("pitch 6;gap 6;columns 40;power 40;start 20;step 20;rows 60;hole 59 7;put,a 39;space 9;skip 7;", 11);
        good("pitch 2;gap 1;columns 1;power 1;start 0;step 1;rows 1;hole 0 0;put,a 0;space 0;skip 0;", 11);
        good("put,ab 18;", 1);
        good("put,a 30;hole 59 0;rows 60;columns 31;", 4);
        good("hole 0 0;hole 0 0;put,a0;put,a0;go;go;space 1;space 1;skip 0;skip 0;", 10);
        good("go;".repeat(24) + "pitch 3;hole 1 1;", 26);
        TypeChain x = Tape.told("chain,zy;rows 2;columns 3;hole 1 4;put,z 0;go;space 1;");
        x.run();
        x.put(2, 26);
        due("all as at first", Tape.tell(x, ""), 0);
        asAtFirst(x);
        x = Tape.told("put,a 0;go;space 2;");
        x.run();
        x.put(1, 2);
        due("what is refused", Tape.tell(x, "pitch 9;"), -16);
        due("now(0) stays", x.now(0), 8);
        due("line(1) stays", x.line(1), 2);
        due("page stays", x.page(0, 0, 0), 1);
        due("struck(0) stays", x.struck(0), 1);
        due("ran(1) stays", x.ran(1), 1);
        due("order(2, 1) stays", x.order(2, 1), 2);
        x = Tape.told("");
        x.sheet(0, 0, 3);
        Tape.tell(x, "go;");
        due("sheets are not of the text", x.count(4), 3);
    }

    private static void fault() {
        promise = 5;
        faulty("Go;", 1, 0);
        faulty("go;.", 1, 3);
        faulty("go;\t", 1, 3);
        faulty("go" + (char) 0, 1, 2);
        faulty("pitch 123;", 1, 6);
        faulty("pitch 003;", 1, 6);
        faulty("go;1234567890123;", 1, 3);
        faulty("go", 2, 2);
        faulty("go  ", 2, 4);
        faulty("go,", 2, 2);
        faulty("go go;", 2, 3);
        faulty(";", 2, 0);
        faulty(" ,", 2, 1);
        faulty("12;", 2, 0);
        faulty("g;", 2, 0);
        faulty("gos;", 2, 0);
        faulty("columnsa 3;", 2, 0);
        faulty("column 3;", 2, 0);
        faulty("pitch;", 2, 5);
        faulty("pitch a;", 2, 6);
        faulty("pitch 3 3;", 2, 8);
        faulty("pitch", 2, 5);
        faulty("chain ab;", 2, 6);
        faulty("chain,12;", 2, 6);
        faulty("chain,ab,", 2, 8);
        faulty("hole 1;", 2, 6);
        faulty("put,a;", 2, 5);
        faulty("put a 0;", 2, 4);
        faulty("go 1;", 2, 3);
        faulty("pitch 1;", 3, 6);
        faulty("pitch 7;", 3, 6);
        faulty("gap 0;", 3, 4);
        faulty("gap 7;", 3, 4);
        faulty("columns 0;", 3, 8);
        faulty("columns 41;", 3, 8);
        faulty("power 0;", 3, 6);
        faulty("power 41;", 3, 6);
        faulty("start 21;", 3, 6);
        faulty("step 0;", 3, 5);
        faulty("step 21;", 3, 5);
        faulty("rows 0;", 3, 5);
        faulty("rows 61;", 3, 5);
        faulty("hole 60 0;", 3, 5);
        faulty("hole 0 8;", 3, 7);
        faulty("put,a 40;", 3, 6);
        faulty("space 10;", 3, 6);
        faulty("skip 8;", 3, 5);
        faulty("chain,a;", 3, 6);
        faulty("chain," + "a".repeat(49) + ";", 3, 6);
        faulty("pitch 9:", 3, 6);
        faulty("pitch 3;pitch:", 4, 8);
        for (String w : new String[] {"pitch 3;", "gap 2;", "columns 9;", "power 2;", "start 2;", "step 2;", "rows 9;", "chain,ab;"}) {
            faulty(w + "go;" + w, 4, w.length() + 3);
        }
        faulty("go;".repeat(24) + "go;", 5, 72);
        faulty("go;".repeat(24) + "put:", 5, 72);
        faulty("go;".repeat(24) + " space 1;", 5, 73);
        faulty("go;".repeat(24) + "skip 0;", 5, 72);
        faulty("hole 12 0;", 6, 5);
        faulty("rows 3;hole 3 0;", 6, 12);
        faulty("hole 3 0;rows 3;", 6, 5);
        faulty("put,a0;".repeat(24) + "hole0 0;".repeat(7) + "hole12 0;", 6, 228);
        faulty("put,ab 19;", 7, 7);
        faulty("put,a 20;", 7, 6);
        faulty("put," + "a".repeat(50) + " 0;columns 40;", 7, 55);
        faulty("put,ab 19;hole 12 0;", 7, 7);
        faulty("hole 12 0;put,ab 19;", 6, 5);
        faulty("put,ab 19;hole 12 9;", 3, 18);
        TypeChain x = new TypeChain();
        Tape.tell(x, "x");
        due("fault()", x.fault(), 2);
        Tape.tell(x, "");
        due("fault() of a good one", x.fault(), 0);
    }

    private static void rules() {
        promise = 6;
        TypeChain x = Tape.told("chain,abcab;pitch 4;gap 5;columns 7;power 8;start 9;step 10;rows 11;go;go;");
        int[] due = {5, 4, 5, 7, 8, 9, 10, 11, 2};
        for (int i = 0; i < due.length; i++) due("rule(" + i + ")", x.rule(i), due[i]);
        due("rule(-1)", x.rule(-1), BAD);
        due("rule(9)", x.rule(9), BAD);
        promise = 7;
        int[] letters = {1, 2, 3, 1, 2};
        for (int i = 0; i < 5; i++) due("slug(" + i + ")", x.slug(i), letters[i]);
        due("slug(-1)", x.slug(-1), BAD);
        due("slug(5)", x.slug(5), BAD);
        promise = 8;
        x = Tape.told("rows 5;hole 4 0;hole 4 7;hole 1 3;");
        due("holes(4)", x.holes(4), 129);
        due("holes(1)", x.holes(1), 8);
        due("holes(0)", x.holes(0), 0);
        due("holes(5)", x.holes(5), BAD);
        due("holes(-1)", x.holes(-1), BAD);
    }

    private static void order() {
        promise = 9;
        TypeChain x = Tape.told("put,xyz 3;go;space 8;skip 7;put,b 0;");
        int[][] due = {{0, 3, 3}, {1, 0, 0}, {2, 8, 0}, {3, 7, 0}, {0, 0, 1}};
        for (int k = 0; k < 5; k++) {
            for (int i = 0; i < 3; i++) due("order(" + k + ", " + i + ")", x.order(k, i), due[k][i]);
        }
        for (int i = 0; i < 3; i++) due("order(0, " + (10 + i) + ")", x.order(0, 10 + i), 24 + i);
        due("order(4, 10)", x.order(4, 10), 2);
        due("order(0, 13)", x.order(0, 13), BAD);
        due("order(1, 10)", x.order(1, 10), BAD);
        due("order(0, 3)", x.order(0, 3), BAD);
        due("order(0, 9)", x.order(0, 9), BAD);
        due("order(0, -1)", x.order(0, -1), BAD);
        due("order(5, 0)", x.order(5, 0), BAD);
        due("order(-1, 0)", x.order(-1, 0), BAD);
    }

    private static void chain() {
        promise = 10;
        TypeChain x = new TypeChain();
        due("faces(0, 0)", x.faces(0, 0), 1);
        due("faces(0, 18)", x.faces(0, 18), 1);
        due("faces(0, 15)", x.faces(0, 15), 6);
        due("faces(1, 0)", x.faces(1, 0), NONE);
        due("faces(3, 0)", x.faces(3, 0), 3);
        due("faces(19, 1000000)", x.faces(19, 1000000), 5);
        due("faces(0, 1000001)", x.faces(0, 1000001), BAD);
        due("faces(0, -1)", x.faces(0, -1), BAD);
        due("faces(20, 0)", x.faces(20, 0), BAD);
        due("faces(-1, 0)", x.faces(-1, 0), BAD);
        promise = 11;
        due("comes(0, 1, 0)", x.comes(0, 1, 0), 0);
        due("comes(0, 2, 4)", x.comes(0, 2, 4), 21);
        due("comes(0, 1, 1000000)", x.comes(0, 1, 1000000), 1000008);
        due("comes(0, 1, 1000001)", x.comes(0, 1, 1000001), BAD);
        due("comes(0, 1, -1)", x.comes(0, 1, -1), BAD);
        due("comes(0, 0, 0)", x.comes(0, 0, 0), BAD);
        due("comes(0, 27, 0)", x.comes(0, 27, 0), BAD);
        due("comes(20, 1, 0)", x.comes(20, 1, 0), BAD);
        due("comes(0, 26, 0)", x.comes(0, 26, 0), NONE);
        TypeChain y = Tape.told("chain,abca;");
        due("two of a kind, the first", y.comes(0, 1, 1), 9);
        due("two of a kind, the next", y.comes(0, 1, 10), 12);
        promise = 12;
        due("late(0, 2, 0)", x.late(0, 2, 0), 2);
        due("late(0, 2, -3)", x.late(0, 2, -3), 1);
        due("late(0, 2, 18)", x.late(0, 2, 18), 2);
        due("late(0, 2, 20)", x.late(0, 2, 20), 0);
        due("late(0, 2, -4)", x.late(0, 2, -4), STATE);
        due("late(0, 2, 21)", x.late(0, 2, 21), BAD);
        due("late(0, 2, -21)", x.late(0, 2, -21), BAD);
        due("late(0, 0, 0)", x.late(0, 0, 0), BAD);
        due("late(0, 27, 0)", x.late(0, 27, 0), BAD);
        due("late(20, 1, 0)", x.late(20, 1, 0), BAD);
        due("late(0, 7, -20)", x.late(0, 7, -20), NONE);
        x.space(1);
        due("from now on", x.late(0, 1, -18), 1);
        due("from now on, below 0", x.late(0, 1, -19), STATE);
        due("from now on, a smear", x.late(0, 1, -1), 0);
    }

    private static void putAndLine() {
        promise = 13;
        TypeChain x = new TypeChain();
        due("put(19, 26)", x.put(19, 26), 0);
        due("put(19, 1)", x.put(19, 1), 26);
        due("put(19, 27)", x.put(19, 27), BAD);
        due("put(19, -1)", x.put(19, -1), BAD);
        due("put(20, 1)", x.put(20, 1), BAD);
        due("put(-1, 1)", x.put(-1, 1), BAD);
        promise = 14;
        due("line(19)", x.line(19), 1);
        due("line(0)", x.line(0), 0);
        due("line(20)", x.line(20), BAD);
        due("line(-1)", x.line(-1), BAD);
        promise = 13;
        due("put(19, 0)", x.put(19, 0), 1);
        due("line(19)", x.line(19), 0);
    }

    /** Pitch 2, gap 4, two slugs: all columns want the same tick. */
    private static TypeChain crowd(int power) {
        TypeChain x = Tape.told("chain,ab;pitch 2;gap 4;columns 5;power " + power + ";");
        for (int c = 0; c < 3; c++) x.put(c, 1);
        return x;
    }

    private static void strikes() {
        promise = 15;
        TypeChain x = crowd(40);
        due("ticks(1)", x.ticks(1), 9);
        due("ticks(2)", x.ticks(2), 5);
        due("ticks(3)", x.ticks(3), 1);
        due("ticks(40)", x.ticks(40), 1);
        due("ticks(0)", x.ticks(0), BAD);
        due("ticks(41)", x.ticks(41), BAD);
        due("now(0) stays", x.now(0), 0);
        due("count(0) stays", x.count(0), 3);
        due("struck(0) stays", x.struck(0), STATE);
        x.put(4, 3);
        due("ticks(1) with a letter that is not there", x.ticks(1), STATE);
        due("ticks(0) is bad before", x.ticks(0), BAD);
        TypeChain y = Tape.told("chain,ab;pitch 2;gap 4;columns 40;");
        for (int c = 0; c < 40; c++) y.put(c, 1);
        due("40 columns, one at a time", y.ticks(1), 157);
        due("40 columns, 39 at a time", y.ticks(39), 5);
        due("40 columns at once", y.ticks(40), 1);
        due("ticks of blanks", crowdless().ticks(1), 0);
        promise = 16;
        due("go() with a letter that is not there", x.go(), STATE);
        due("line(4) stays", x.line(4), 3);
        due("page stays", x.page(0, 0, 1), 0);
        x.put(4, 0);
        due("go()", x.go(), 1);
        due("now(0)", x.now(0), 1);
        due("line(0)", x.line(0), 0);
        due("page(0, 2, 0)", x.page(0, 2, 0), 1);
        due("go() of blanks", x.go(), 0);
        due("now(0)", x.now(0), 1);
        x = crowd(2);
        x.space(1);
        due("go() with a power of 2, from tick 5", x.go(), 8);
        promise = 17;
        due("struck(0)", x.struck(0), 3);
        due("struck(1)", x.struck(1), 2);
        due("struck(2)", x.struck(2), 1);
        due("struck(10)", x.struck(10), 8);
        due("struck(11)", x.struck(11), 8);
        due("struck(12)", x.struck(12), 12);
        due("struck(13)", x.struck(13), NONE);
        due("struck(15)", x.struck(15), BAD);
        due("struck(3)", x.struck(3), BAD);
        due("struck(9)", x.struck(9), BAD);
        due("struck(-1)", x.struck(-1), BAD);
        x = crowd(1);
        x.go();
        due("who waits twice counts once", x.struck(2), 2);
        due("struck(1)", x.struck(1), 1);
        due("struck(12)", x.struck(12), 8);
        x.go();
        due("struck(0) of blanks", x.struck(0), 0);
        due("struck(1) of blanks", x.struck(1), 0);
        due("struck(2) of blanks", x.struck(2), 0);
        due("struck(10) of blanks", x.struck(10), NONE);
        due("struck(0) of none", new TypeChain().struck(0), STATE);
        due("struck(10) of none", new TypeChain().struck(10), STATE);
        due("struck(30) of none", new TypeChain().struck(30), BAD);
    }

    private static TypeChain crowdless() {
        return Tape.told("power 1;");
    }

    private static void slipsAndSeen() {
        promise = 18;
        TypeChain x = Tape.told("chain,abca;");
        due("slipped(0, 0) of none", x.slipped(0, 0), STATE);
        due("slipped(4, 0) of none", x.slipped(4, 0), BAD);
        x.put(0, 1);
        x.put(1, 3);
        x.go();
        int[] shown = {1, 2, 3, 1};
        for (int k = 0; k < 4; k++) due("slipped(" + k + ", 0)", x.slipped(k, 0), shown[k]);
        for (int k = 0; k < 4; k++) due("slipped(" + k + ", 1)", x.slipped(k, 1), shown[(2 + k) % 4]);
        due("slipped(4, 0)", x.slipped(4, 0), BAD);
        due("slipped(-1, 0)", x.slipped(-1, 0), BAD);
        due("slipped(0, 20)", x.slipped(0, 20), BAD);
        due("slipped(0, 2)", x.slipped(0, 2), NONE);
        promise = 19;
        due("seen(0, 1)", x.seen(0, 1), NONE);
        due("seen(0, 0)", x.seen(0, 0), -10);
        due("seen(0, 27)", x.seen(0, 27), -10);
        due("seen(0, -1)", x.seen(0, -1), -10);
        due("seen(20, 1)", x.seen(20, 1), -10);
        due("seen(2, 1)", x.seen(2, 1), -12);
        due("seen(2, 27)", x.seen(2, 27), -10);
        promise = 20;
        due("slips(0)", x.slips(0), 2);
        due("slips(1)", x.slips(1), 0);
        due("seen(0, 2)", x.seen(0, 2), 1);
        due("slips(0)", x.slips(0), 1);
        due("slips(1)", x.slips(1), 1);
        due("seen(1, 1)", x.seen(1, 1), NONE);
        due("slips(0) of two", x.slips(0), 1);
        due("seen(1, 2)", x.seen(1, 2), 1);
        due("slips(0) of two that differ", x.slips(0), 0);
        due("slips(1) of two that differ", x.slips(1), NONE);
        due("seen(1, NONE)", x.seen(1, NONE), 2);
        due("seen(1, NONE) again", x.seen(1, NONE), NONE);
        due("slips(0)", x.slips(0), 1);
        due("slips(2)", x.slips(2), BAD);
        due("slips(-1)", x.slips(-1), BAD);
        x.put(0, 26);
        x.go();
        due("a line that could not be struck", x.slips(0), 1);
        x.put(0, 1);
        x.go();
        due("another line", x.slips(0), 4);
        due("seen(0, 5)", x.seen(0, 5), NONE);
        due("slips(0) of none", new TypeChain().slips(0), STATE);
        due("slips(2) of none", new TypeChain().slips(2), BAD);
        due("seen(0, 1) of none", new TypeChain().seen(0, 1), -12);
        due("seen(0, 0) of none", new TypeChain().seen(0, 0), -10);
    }

    private static void paper() {
        promise = 21;
        TypeChain x = Tape.told("start 4;step 5;rows 6;hole 2 1;hole 5 1;hole 3 2;");
        due("space(0)", x.space(0), 0);
        due("space(10)", x.space(10), BAD);
        due("space(-1)", x.space(-1), BAD);
        due("space(1)", x.space(1), 9);
        due("now(0)", x.now(0), 9);
        due("now(1)", x.now(1), 1);
        x.put(0, 1);
        x.go();
        due("now(3)", x.now(3), 1);
        due("space(4)", x.space(4), 24);
        due("now(3) on the same page", x.now(3), 1);
        due("space(1)", x.space(1), 9);
        due("now(1)", x.now(1), 0);
        due("now(2)", x.now(2), 2);
        due("now(3) on a new page", x.now(3), 0);
        due("page(1, 0, 1) on a new page", x.page(1, 0, 1), 0);
        due("space(9)", x.space(9), 49);
        due("now(1)", x.now(1), 3);
        due("now(2)", x.now(2), 3);
        promise = 22;
        due("skip(2) round to this row", x.skip(2), 34);
        due("now(1)", x.now(1), 3);
        due("now(2)", x.now(2), 4);
        due("skip(1)", x.skip(1), 14);
        due("now(1)", x.now(1), 5);
        due("skip(1)", x.skip(1), 19);
        due("now(1)", x.now(1), 2);
        due("skip(0)", x.skip(0), NONE);
        due("skip(8)", x.skip(8), BAD);
        due("skip(-1)", x.skip(-1), BAD);
        due("now(1) stays", x.now(1), 2);
        due("now(2)", x.now(2), 5);
        promise = 23;
        x = Tape.told("rows 1;");
        x.space(9);
        due("pages of one row", x.now(2), 10);
        due("now(0)", x.now(0), 21);
        x = new TypeChain();
        for (int c = 0; c < 3; c++) x.put(c, 1);
        x.go();
        x.put(1, 2);
        x.put(3, 2);
        x.go();
        x.space(1);
        x.put(1, 3);
        x.go();
        due("now(3)", x.now(3), 5);
        due("now(4)", x.now(4), 1);
        due("now(5)", x.now(5), BAD);
        due("now(-1)", x.now(-1), BAD);
        promise = 24;
        due("page(0, 1, 0)", x.page(0, 1, 0), 2);
        due("page(0, 1, 1)", x.page(0, 1, 1), 2);
        due("page(0, 0, 1)", x.page(0, 0, 1), 1);
        due("page(1, 1, 0)", x.page(1, 1, 0), 3);
        due("page(1, 0, 0)", x.page(1, 0, 0), 0);
        due("page(12, 0, 0)", x.page(12, 0, 0), BAD);
        due("page(-1, 0, 0)", x.page(-1, 0, 0), BAD);
        due("page(0, 20, 0)", x.page(0, 20, 0), BAD);
        due("page(0, -1, 0)", x.page(0, -1, 0), BAD);
        due("page(0, 0, 2)", x.page(0, 0, 2), BAD);
        due("page(0, 0, -1)", x.page(0, 0, -1), BAD);
    }

    private static void programs() {
        promise = 25;
        TypeChain x = Tape.told("put,ab 0;go;space 1;put,z 1;go;space 2;");
        due("ran(0) before", x.ran(0), STATE);
        due("ran(3) before", x.ran(3), BAD);
        due("run() that ends at a go", x.run(), 4);
        promise = 26;
        due("ran(0)", x.ran(0), 7);
        due("ran(1)", x.ran(1), 1);
        due("ran(2)", x.ran(2), 4);
        due("ran(3)", x.ran(3), BAD);
        due("ran(-1)", x.ran(-1), BAD);
        due("line(1)", x.line(1), 26);
        due("struck(0) of a run", x.struck(0), 2);
        promise = 25;
        due("run() from now on", x.run(), 4);
        due("now(1)", x.now(1), 2);
        x = Tape.told("skip 0;go;skip 3;go;");
        due("run() that ends at a skip", x.run(), 2);
        promise = 26;
        due("ran(0)", x.ran(0), 27);
        due("ran(1) with a line of blanks", x.ran(1), 1);
        due("ran(2)", x.ran(2), 2);
        Tape.tell(x, "nothing;");
        due("ran(2) behind a text that is refused", x.ran(2), 2);
        Tape.tell(x, "");
        due("ran(2) behind a text", x.ran(2), STATE);
        due("run() of none", x.run(), 0);
        due("ran(2) of none", x.ran(2), NONE);
        x = Tape.told("put,a 0;go;");
        x.put(1, 2);
        x.run();
        due("a line that was put by hand", x.struck(0), 2);
        x.seen(0, 5);
        x.run();
        due("a run strikes another line", x.seen(0, 1), NONE);
    }

    private static void best() {
        promise = 27;
        TypeChain x = Tape.told("chain,ba;put,ab 0;go;");
        due("best(0)", x.best(0), 2);
        due("best(10)", x.best(10), 1);
        due("best(11)", x.best(11), 2);
        due("best(12)", x.best(12), NONE);
        due("best(15)", x.best(15), NONE);
        due("best(16)", x.best(16), BAD);
        due("best(9)", x.best(9), BAD);
        due("best(1)", x.best(1), BAD);
        due("best(-1)", x.best(-1), BAD);
        due("the chain stays", x.slug(0), 2);
        due("the tick stays", x.now(0), 0);
        due("no line was struck", x.struck(0), STATE);
        x.put(5, 2);
        x.space(1);
        due("from tick 0, with a line of blanks", x.best(0), 2);
        due("run() takes longer", x.run(), 2);
        due("best(0) behind a run", x.best(0), 2);
        x = Tape.told("chain,cab;space 1;");
        due("of several, ticks", x.best(0), 5);
        for (int i = 0; i < 3; i++) due("of several the least", x.best(10 + i), i + 1);
        // letters in columns 0, 3, 6 want slugs m, m - 2, m - 4 at one tick: c a e b d f lies so
        x = Tape.told("put,c 0;put,a 3;put,e 6;go;");
        due("all three at tick 0", x.best(0), 1);
        int[] order = {3, 2, 1, 4, 5, 6};
        for (int i = 0; i < 6; i++) due("best(" + (10 + i) + ")", x.best(10 + i), order[i]);
        Tape.tell(x, "chain,ba;go;");
        due("another text", x.best(0), 0);
        due("another text", x.best(10), 1);
        due("seven slugs", Tape.told("chain,abcdefg;go;").best(0), STATE);
        due("no program", Tape.told("chain,ab;").best(10), STATE);
        due("no letter", Tape.told("go;put,z 0;go;").best(0), STATE);
        due("no hole", Tape.told("skip 1;").best(14), STATE);
        due("bad before state", Tape.told("skip 1;").best(16), BAD);
    }

    private static void twice() {
        promise = 28;
        TypeChain x = Tape.told("chain,ab;put,b 0;go;put,b 0;go;");
        due("twice(0)", x.twice(0), 2);
        due("twice(1)", x.twice(1), 7);
        due("twice(2)", x.twice(2), 3);
        due("twice(3)", x.twice(3), -1000000);
        due("twice(-1)", x.twice(-1), -1000000);
        due("the chain stays", x.rule(0), 2);
        x.space(2);
        x.put(9, 1);
        due("from tick 0, with a line of blanks", x.twice(1), 7);
        x = Tape.told("put,z 0;go;");
        due("a letter that was not there", x.twice(0), 26);
        due("its ticks", x.twice(1), 19);
        due("none without it", x.twice(2), -1000004);
        x = Tape.told("space 1;");
        due("of several the least", x.twice(0), 1);
        due("its ticks", x.twice(1), 5);
        due("no fewer", x.twice(2), 0);
        // a turn is longer by a slug, so the a of the second line comes 3 ticks later
        x = Tape.told("chain,ab;put,ab 0;go;put,ab 0;go;");
        due("the best of what is worse", x.twice(0), 2);
        due("its ticks", x.twice(1), 10);
        due("fewer, below 0", x.twice(2), -2);
        due("two letters that are not there", Tape.told("put,yz 0;go;").twice(0), -1000002);
        due("no hole", Tape.told("skip 1;").twice(2), -1000002);
        due("no program", Tape.told("").twice(0), -1000002);
        due("48 slugs", Tape.told("chain," + "a".repeat(48) + ";go;").twice(0), -1000002);
        due("48 slugs, bad before", Tape.told("chain," + "a".repeat(48) + ";go;").twice(3), -1000000);
        x = Tape.told("chain," + "a".repeat(47) + ";put,b 0;go;");
        due("47 slugs", x.twice(0), 2);
        due("47 slugs, ticks", x.twice(1), 142);
        Tape.tell(x, "go;");
        due("another text", x.twice(1), 0);
    }

    private static void sheets() {
        promise = 29;
        TypeChain x = Tape.told("columns 3;");
        due("sheet(0, 0, 0)", x.sheet(0, 0, 0), 1);
        due("sheet(3, 2, 40)", x.sheet(3, 2, 40), 1);
        due("sheet(4, 0, 1)", x.sheet(4, 0, 1), BAD);
        due("sheet(-1, 0, 1)", x.sheet(-1, 0, 1), BAD);
        due("sheet(0, 3, 1)", x.sheet(0, 3, 1), BAD);
        due("sheet(0, -1, 1)", x.sheet(0, -1, 1), BAD);
        due("sheet(0, 0, 41)", x.sheet(0, 0, 41), BAD);
        due("sheet(0, 0, -1)", x.sheet(0, 0, -1), -14);
        due("sheet(4, 0, -1)", x.sheet(4, 0, -1), BAD);
        due("count(4) stays", x.count(4), 0);
        x.lay(3, 0, 9);
        x.sheet(3, 2, 40);
        due("a new row has cells 0", x.read(3, 2, 0), 0);
        promise = 30;
        due("lay(3, 39, 5)", x.lay(3, 39, 5), 1);
        due("lay(3, 40, 5)", x.lay(3, 40, 5), -12);
        due("lay(3, -1, 5)", x.lay(3, -1, 5), -12);
        due("lay(0, 0, 5)", x.lay(0, 0, 5), -12);
        due("lay(1, 0, 5)", x.lay(1, 0, 5), -11);
        due("lay(4, 0, 5)", x.lay(4, 0, 5), BAD);
        due("lay(-1, 0, 5)", x.lay(-1, 0, 5), BAD);
        for (int lane = 0; lane < 3; lane++) {
            x.sheet(1, lane, 3);
            x.lay(1, 0, 256 + 1);
            due("256 and 1 in lane " + lane, x.read(1, lane, 0), lane == 0 ? 1 : -20);
            x.lay(1, 0, 65536 + 1);
            due("65536 and 1 in lane " + lane, x.read(1, lane, 0), lane == 2 ? -20 : 1);
            x.lay(1, 0, lane == 0 ? 128 : lane == 1 ? 32768 : Integer.MIN_VALUE);
            due("the least in lane " + lane, x.read(1, lane, 0), -20);
        }
        promise = 31;
        x = Tape.told("columns 3;");
        x.sheet(2, 1, 5);
        for (int i = 0; i < 5; i++) x.lay(2, i, i == 1 ? 0 : i == 4 ? 27 : i + 1);
        due("read(2, 1, 0)", x.read(2, 1, 0), 2);
        due("line(0)", x.line(0), 1);
        due("line(1)", x.line(1), 0);
        due("line(2)", x.line(2), 3);
        due("read(2, 1, 1)", x.read(2, 1, 1), 2);
        due("line(2)", x.line(2), 4);
        due("read(2, 1, 2)", x.read(2, 1, 2), -22);
        due("read(2, 1, 4)", x.read(2, 1, 4), -20);
        x.lay(2, 4, 26);
        due("read(2, 1, 3)", x.read(2, 1, 3), -12);
        due("read(2, 1, -1)", x.read(2, 1, -1), -12);
        due("read(2, 1, 2147483647)", x.read(2, 1, Integer.MAX_VALUE), -12);
        due("read(2, 1, -2147483648)", x.read(2, 1, Integer.MIN_VALUE), -12);
        due("read(2, 0, 0)", x.read(2, 0, 0), -13);
        due("read(2, 2, 99)", x.read(2, 2, 99), -13);
        due("read(1, 0, 99)", x.read(1, 0, 99), -11);
        due("read(4, 0, 0)", x.read(4, 0, 0), BAD);
        due("read(-1, 0, 0)", x.read(-1, 0, 0), BAD);
        due("read(1, 3, 0)", x.read(1, 3, 0), BAD);
        due("read(1, -1, 0)", x.read(1, -1, 0), BAD);
        due("line(2) stays", x.line(2), 4);
        due("line(1) stays", x.line(1), 3);
        due("read(2, 1, 2) with z", x.read(2, 1, 2), 3);
    }

    private static void count() {
        promise = 32;
        TypeChain x = Tape.told("chain,abcab;rows 3;hole 2 1;hole 2 1;hole 0 3;");
        x.put(0, 1);
        x.put(7, 26);
        due("count(0)", x.count(0), 2);
        due("count(1)", x.count(1), 3);
        due("count(2)", x.count(2), 2);
        due("count(3)", x.count(3), 0);
        x.feed(0);
        due("count(3)", x.count(3), 8);
        due("count(4)", x.count(4), NONE);
        x.sheet(1, 0, 9);
        due("count(4)", x.count(4), NONE);
        x.sheet(0, 0, 0);
        due("count(4)", x.count(4), 0);
        x.sheet(0, 1, 40);
        due("count(4)", x.count(4), 40);
        due("count(5)", x.count(5), BAD);
        due("count(-1)", x.count(-1), BAD);
        due("BAD", TypeChain.BAD, -1);
        due("STATE", TypeChain.STATE, -2);
        due("FULL", TypeChain.FULL, -3);
        due("NONE", TypeChain.NONE, -4);
    }

    public static void main(String[] args) {
        newObject();
        feed();
        end();
        text();
        fault();
        rules();
        order();
        chain();
        putAndLine();
        strikes();
        slipsAndSeen();
        paper();
        programs();
        best();
        twice();
        sheets();
        count();
        System.out.println(held + " answers looked at, " + wrong + " wrong");
        if (wrong != 0) System.exit(1);
    }
}

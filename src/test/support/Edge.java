import java.io.IOException;
import java.nio.file.Files;
import java.nio.file.Path;

/** What the tests of boundary cases share: each names its promise, and its sentence as the document has it. */
final class Edge {
    static final int BAD = -1, STATE = -2, FULL = -3, NONE = -4;
    static final int LEAST = Integer.MIN_VALUE, GREATEST = Integer.MAX_VALUE;
    private static final String DOCUMENT = document();
    private static int promise, tests, answers, wrong;
    private static String sentence = "";

    private Edge() {
    }

    private static String document() {
        try {
            return onOneLine(Files.readString(Path.of("../shared/DOC.md")));
        } catch (IOException e) {
            throw new IllegalStateException("the document can not be read", e);
        }
    }

    private static String onOneLine(String s) {
        return s.replaceAll("\\s+", " ");
    }

    /** The section of a promise and the terms that it uses. */
    private static boolean isSaid(int number, String words) {
        int terms = DOCUMENT.indexOf("## Terms"), first = DOCUMENT.indexOf("## Promise 1:");
        int from = DOCUMENT.indexOf("## Promise " + number + ":"), to = DOCUMENT.indexOf(" ## ", from);
        if (terms < 0 || first < terms || from < 0 || to < from) return false;
        return (DOCUMENT.substring(terms, first) + DOCUMENT.substring(from, to)).contains(onOneLine(words));
    }

    private static void complain(String what) {
        wrong++;
        System.out.println("promise " + promise + ", \"" + sentence + "\": " + what);
    }

    static void test(int number, String words, Runnable body) {
        promise = number;
        sentence = words;
        tests++;
        int before = answers;
        if (!isSaid(number, words)) complain("the document has no such sentence there");
        try {
            body.run();
        } catch (RuntimeException | Error e) {
            complain("threw " + e);
        }
        if (answers == before) complain("no answer was looked at");
    }

    static void due(String call, int got, int want) {
        answers++;
        if (got != want) complain(call + " answered " + got + ", due is " + want);
    }

    static void due(String what, String got, String want) {
        answers++;
        if (!got.equals(want)) complain(what + ":\n  is  " + got + "\n  due " + want);
    }

    /** A new object takes this text. */
    static void taken(String text, int lines) {
        TypeChain x = new TypeChain();
        due("text() of \"" + text + "\"", Tape.tell(x, text), lines);
        due("fault() of \"" + text + "\"", x.fault(), 0);
    }

    /** A new object refuses this text. */
    static void faulty(String text, int fault, int place) {
        TypeChain x = new TypeChain();
        due("text() of \"" + text + "\"", Tape.tell(x, text), -10 - place);
        due("fault() of \"" + text + "\"", x.fault(), fault);
    }

    static void finish() {
        System.out.println(tests + " boundary cases, " + answers + " answers looked at, " + wrong + " wrong");
        if (wrong != 0 || tests == 0) System.exit(1);
    }
}

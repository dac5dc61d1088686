import java.util.ArrayList;
import java.util.Arrays;
import java.util.List;
import java.util.Random;
import java.util.TreeSet;

/** Long runs of chance calls, each answer held against a plain model that goes tick by tick. */
public final class ModelTest {
    private static final int BAD = -1, STATE = -2, FULL = -3, NONE = -4;

    /** The document's words, in the slowest form. */
    static final class Model {
        List<Integer> tape = new ArrayList<>();
        int fault;
        List<Integer> chain = new ArrayList<>(List.of(1, 2, 3, 4, 5, 6));
        int[] values = {0, 3, 2, 20, 40, 3, 2, 12};
        boolean[][] holes = new boolean[60][8];
        List<Order> program = new ArrayList<>();
        int[] line = new int[40];
        int tick, row, pages = 1;
        int[][] letters = new int[60][40], times = new int[60][40];
        boolean anyStruck;
        int[] struckTick = new int[40], struckSlug = new int[40], seen = new int[40];
        int struckMost;
        TreeSet<Integer> waited = new TreeSet<>();
        boolean ran;
        int ranTicks, ranLines, ranEnd;
        Object[] sheets = new Object[4];

        record Order(int kind, int number, List<Integer> letters) { }
        record Token(char kind, int from, String text) { }

        Model() { holes[0][0] = true; }

        int columns() { return values[3]; }
        int rows() { return values[7]; }
        boolean column(int c) { return c >= 0 && c < columns(); }

        // ---- the text

        int feed(long v) {
            if (tape.size() + 8 > 240) return FULL;
            for (int i = 7; i >= 0; i--) tape.add((int) (v >>> (8 * i)) & 255);
            return tape.size();
        }

        int end(int n) {
            if (n < 0 || n > tape.size()) return BAD;
            int had = tape.size();
            tape = new ArrayList<>(tape.subList(0, n));
            return had;
        }

        static final class Fault extends RuntimeException {
            private static final long serialVersionUID = 1;
            final int number, place;
            Fault(int number, int place) { this.number = number; this.place = place; }
        }

        private String source;
        private int at;

        private Token token() {
            while (at < source.length() && source.charAt(at) == ' ') at++;
            int from = at;
            if (at == source.length()) return new Token('e', from, "");
            String rest = source.substring(at);
            String name = rest.replaceFirst("(?s)^([a-z]*).*$", "$1");
            if (!name.isEmpty()) { at += name.length(); return new Token('n', from, name); }
            String figures = rest.replaceFirst("(?s)^([0-9]*).*$", "$1");
            if (figures.length() > 2) throw new Fault(1, from);
            if (!figures.isEmpty()) { at += figures.length(); return new Token('0', from, figures); }
            at++;
            char c = rest.charAt(0);
            if (c == ';' || c == ',') return new Token(c, from, "" + c);
            throw new Fault(1, from);
        }

        private Token want(char kind) {
            Token t = token();
            if (t.kind() != kind) throw new Fault(2, t.from());
            return t;
        }

        private int[] wantNumber(int low, int high) {
            Token t = want('0');
            int n = Integer.parseInt(t.text());
            if (n < low || n > high) throw new Fault(3, t.from());
            return new int[] {n, t.from()};
        }

        private static List<Integer> lettersOf(String s) {
            List<Integer> l = new ArrayList<>();
            for (char c : s.toCharArray()) l.add(c - 96);
            return l;
        }

        private static final List<String> WORDS = List.of("chain", "pitch", "gap", "columns", "power", "start",
            "step", "rows", "hole", "put", "go", "space", "skip");
        private static final int[][] BOUNDS = {{}, {2, 6}, {1, 6}, {1, 40}, {1, 40}, {0, 20}, {1, 20}, {1, 60}};

        int text() {
            StringBuilder b = new StringBuilder();
            for (int v : tape) b.append((char) v);
            source = b.toString();
            at = 0;
            tape.clear();
            fault = 0;
            Model next = new Model();
            next.holes[0][0] = false;
            int lines = 0;
            try {
                List<String> told = new ArrayList<>();
                List<int[]> later = new ArrayList<>();
                boolean anyHole = false;
                while (true) {
                    Token t = token();
                    if (t.kind() == 'e') break;
                    int w = t.kind() == 'n' ? WORDS.indexOf(t.text()) : -1;
                    if (w < 0) throw new Fault(2, t.from());
                    if (w < 8 && told.contains(t.text())) throw new Fault(4, t.from());
                    if (w > 8 && next.program.size() == 24) throw new Fault(5, t.from());
                    told.add(t.text());
                    if (w == 0) {
                        want(',');
                        Token l = want('n');
                        if (l.text().length() < 2 || l.text().length() > 48) throw new Fault(3, l.from());
                        next.chain = lettersOf(l.text());
                    } else if (w < 8) {
                        next.values[w] = wantNumber(BOUNDS[w][0], BOUNDS[w][1])[0];
                    } else if (w == 8) {
                        int[] r = wantNumber(0, 59);
                        int[] ch = wantNumber(0, 7);
                        next.holes[r[0]][ch[0]] = true;
                        anyHole = true;
                        later.add(new int[] {6, r[0], r[1]});
                    } else if (w == 9) {
                        want(',');
                        Token l = want('n');
                        int[] n = wantNumber(0, 39);
                        next.program.add(new Order(0, n[0], lettersOf(l.text())));
                        later.add(new int[] {7, n[0] + l.text().length() - 1, n[1]});
                    } else {
                        int n = w == 10 ? 0 : wantNumber(0, w == 11 ? 9 : 7)[0];
                        next.program.add(new Order(w - 9, n, List.of()));
                    }
                    want(';');
                    lines++;
                }
                for (int[] l : later) {
                    if (l[1] >= (l[0] == 6 ? next.rows() : next.columns())) throw new Fault(l[0], l[2]);
                }
                if (!anyHole) next.holes[0][0] = true;
            } catch (Fault f) {
                fault = f.number;
                return -10 - f.place;
            }
            chain = next.chain; values = next.values; holes = next.holes; program = next.program;
            line = next.line; tick = 0; row = 0; pages = 1; letters = next.letters; times = next.times;
            anyStruck = false; ran = false;
            return lines;
        }

        int rule(int what) {
            if (what < 0 || what > 8) return BAD;
            return what == 0 ? chain.size() : what == 8 ? program.size() : values[what];
        }

        int slug(int i) { return i < 0 || i >= chain.size() ? BAD : chain.get(i); }

        int holes(int r) {
            if (r < 0 || r >= rows()) return BAD;
            int bits = 0;
            for (int ch = 0; ch < 8; ch++) if (holes[r][ch]) bits += 1 << ch;
            return bits;
        }

        int order(int k, int what) {
            if (k < 0 || k >= program.size()) return BAD;
            Order o = program.get(k);
            if (what == 0) return o.kind();
            if (what == 1) return o.number();
            if (what == 2) return o.letters().size();
            if (what >= 10 && what < 10 + o.letters().size()) return o.letters().get(what - 10);
            return BAD;
        }

        // ---- the chain

        int slugAt(List<Integer> on, int c, int t) {
            for (int m = 0; m * values[1] <= c * values[2] + t; m++) {
                if (m * values[1] == c * values[2] + t) return m % on.size();
            }
            return -1;
        }

        int quickSlugAt(List<Integer> on, int c, int t) {
            int s = c * values[2] + t;
            return s % values[1] != 0 ? -1 : s / values[1] % on.size();
        }

        int letterAt(int c, int t) {
            int s = t < 2000 ? slugAt(chain, c, t) : quickSlugAt(chain, c, t);
            return s < 0 ? NONE : chain.get(s);
        }

        int faces(int c, int t) { return !column(c) || t < 0 || t > 1000000 ? BAD : letterAt(c, t); }

        int firstTick(int c, int letter, int t) {
            if (!chain.contains(letter)) return NONE;
            while (letterAt(c, t) != letter) t++;
            return t;
        }

        int comes(int c, int letter, int t) {
            if (!column(c) || letter < 1 || letter > 26 || t < 0 || t > 1000000) return BAD;
            return firstTick(c, letter, t);
        }

        int late(int c, int letter, int d) {
            if (!column(c) || letter < 1 || letter > 26 || d < -20 || d > 20) return BAD;
            int t = firstTick(c, letter, tick);
            if (t == NONE) return NONE;
            if (t + d < 0) return STATE;
            return Math.max(0, letterAt(c, t + d));
        }

        // ---- lines

        int put(int c, int letter) {
            if (!column(c) || letter < 0 || letter > 26) return BAD;
            int was = line[c];
            line[c] = letter;
            return was;
        }

        int line(int c) { return column(c) ? line[c] : BAD; }

        static boolean all(List<Integer> on, int[] letters) {
            for (int l : letters) if (l != 0 && !on.contains(l)) return false;
            return true;
        }

        /** Ticks that a line takes; what was struck goes into the rows, if there are any. */
        int strike(List<Integer> on, int[] letters, int power, int from, int[] ticks, int[] slugs) {
            boolean[] done = new boolean[40];
            int left = 0, t = from;
            for (int c = 0; c < columns(); c++) if (letters[c] != 0) left++;
            if (ticks != null) { struckMost = 0; waited.clear(); Arrays.fill(ticks, NONE); }
            while (left > 0) {
                int hits = 0;
                for (int c = 0; c < columns(); c++) {
                    if (letters[c] == 0 || done[c]) continue;
                    int s = quickSlugAt(on, c, t);
                    if (s < 0 || on.get(s) != letters[c]) continue;
                    if (hits == power) { if (ticks != null) waited.add(c); continue; }
                    hits++;
                    left--;
                    done[c] = true;
                    if (ticks != null) { ticks[c] = t; slugs[c] = s; }
                }
                if (ticks != null) struckMost = Math.max(struckMost, hits);
                t++;
            }
            return t - from;
        }

        int ticks(int h) {
            if (h < 1 || h > 40) return BAD;
            return all(chain, line) ? strike(chain, line, h, tick, null, null) : STATE;
        }

        int go() {
            if (!all(chain, line)) return STATE;
            int taken = strike(chain, line, values[4], tick, struckTick, struckSlug);
            anyStruck = true;
            Arrays.fill(seen, NONE);
            for (int c = 0; c < 40; c++) {
                if (line[c] == 0) continue;
                letters[row][c] = line[c];
                times[row][c]++;
                line[c] = 0;
            }
            tick += taken;
            return taken;
        }

        int struck(int what) {
            if (what < 0 || what > 2 && what < 10 || what >= 10 && !column(what - 10)) return BAD;
            if (!anyStruck) return STATE;
            if (what == 1) return struckMost;
            if (what == 2) return waited.size();
            if (what >= 10) return struckTick[what - 10];
            int n = 0;
            for (int c = 0; c < columns(); c++) if (struckTick[c] != NONE) n++;
            return n;
        }

        int slipped(int k, int c) {
            if (k < 0 || k >= chain.size() || !column(c)) return BAD;
            if (!anyStruck) return STATE;
            return struckTick[c] == NONE ? NONE : chain.get((struckSlug[c] + k) % chain.size());
        }

        int seen(int c, int letter) {
            if (!column(c) || letter != NONE && (letter < 1 || letter > 26)) return -10;
            if (!anyStruck || struckTick[c] == NONE) return -12;
            int was = seen[c];
            seen[c] = letter;
            return was;
        }

        int slips(int what) {
            if (what != 0 && what != 1) return BAD;
            if (!anyStruck) return STATE;
            List<Integer> fit = new ArrayList<>();
            for (int k = 0; k < chain.size(); k++) {
                boolean ok = true;
                for (int c = 0; c < columns(); c++) if (seen[c] != NONE && slipped(k, c) != seen[c]) ok = false;
                if (ok) fit.add(k);
            }
            return what == 0 ? fit.size() : fit.isEmpty() ? NONE : fit.get(0);
        }

        // ---- paper

        int move(int k) {
            for (int i = 0; i < k; i++) {
                row++;
                if (row == rows()) {
                    row = 0;
                    pages++;
                    letters = new int[60][40];
                    times = new int[60][40];
                }
            }
            int taken = k == 0 ? 0 : values[5] + k * values[6];
            tick += taken;
            return taken;
        }

        int space(int k) { return k < 0 || k > 9 ? BAD : move(k); }

        int wayToHole(int from, int channel) {
            for (int k = 1; k <= rows(); k++) if (holes[(from + k) % rows()][channel]) return k;
            return 0;
        }

        int skip(int channel) {
            if (channel < 0 || channel > 7) return BAD;
            int k = wayToHole(row, channel);
            return k == 0 ? NONE : move(k);
        }

        int now(int what) {
            if (what < 0 || what > 4) return BAD;
            if (what < 3) return what == 0 ? tick : what == 1 ? row : pages;
            int n = 0;
            for (int[] r : times) for (int t : r) if (t > what - 3) n++;
            return n;
        }

        int page(int r, int c, int what) {
            if (r < 0 || r >= rows() || !column(c) || what < 0 || what > 1) return BAD;
            return what == 0 ? letters[r][c] : times[r][c];
        }

        // ---- programs

        int run() {
            int from = tick, lines = 0, done = 0;
            for (Order o : program) {
                if (o.kind() == 0) {
                    for (int i = 0; i < o.letters().size(); i++) line[o.number() + i] = o.letters().get(i);
                } else if (o.kind() == 1) {
                    if (go() == STATE) break;
                    lines++;
                } else if (o.kind() == 2) {
                    move(o.number());
                } else if (skip(o.number()) == NONE) {
                    break;
                }
                done++;
            }
            ran = true;
            ranTicks = tick - from;
            ranLines = lines;
            ranEnd = done < program.size() ? done : NONE;
            return done;
        }

        int ran(int what) {
            if (what < 0 || what > 2) return BAD;
            return !ran ? STATE : what == 0 ? ranTicks : what == 1 ? ranLines : ranEnd;
        }

        /** Ticks of a run from a new text on, with a chain; -1 if it can not all be done. */
        int trial(List<Integer> on) {
            int t = 0, r = 0;
            int[] l = new int[40];
            for (Order o : program) {
                int k = 0;
                if (o.kind() == 0) {
                    for (int i = 0; i < o.letters().size(); i++) l[o.number() + i] = o.letters().get(i);
                } else if (o.kind() == 1) {
                    if (!all(on, l)) return -1;
                    t += strike(on, l, values[4], t, null, null);
                    l = new int[40];
                } else if (o.kind() == 2) {
                    k = o.number();
                } else {
                    k = wayToHole(r, o.number());
                    if (k == 0) return -1;
                }
                if (k > 0) t += values[5] + k * values[6];
                r = (r + k) % rows();
            }
            return t;
        }

        private int leastTicks;
        private List<Integer> leastOrder;

        private void orders(List<Integer> so, List<Integer> rest) {
            if (rest.isEmpty()) {
                int t = trial(so);
                if (t < 0) return;
                if (leastOrder == null || t < leastTicks || t == leastTicks && less(so, leastOrder)) {
                    leastTicks = t;
                    leastOrder = new ArrayList<>(so);
                }
                return;
            }
            for (int i = 0; i < rest.size(); i++) {
                List<Integer> more = new ArrayList<>(so), fewer = new ArrayList<>(rest);
                more.add(fewer.remove(i));
                orders(more, fewer);
            }
        }

        private static boolean less(List<Integer> a, List<Integer> b) {
            for (int i = 0; i < a.size(); i++) if (!a.get(i).equals(b.get(i))) return a.get(i) < b.get(i);
            return false;
        }

        int best(int what) {
            if (what != 0 && (what < 10 || what > 15)) return BAD;
            if (chain.size() > 6 || program.isEmpty()) return STATE;
            leastOrder = null;
            orders(List.of(), chain);
            if (leastOrder == null) return STATE;
            if (what == 0) return leastTicks;
            return what - 10 < leastOrder.size() ? leastOrder.get(what - 10) : NONE;
        }

        int twice(int what) {
            if (what < 0 || what > 2) return -1000000;
            if (chain.size() == 48 || program.isEmpty()) return -1000002;
            int least = -1, which = 0;
            for (int l = 26; l >= 1; l--) {
                List<Integer> more = new ArrayList<>(chain);
                more.add(l);
                int t = trial(more);
                if (t >= 0 && (least < 0 || t <= least)) { least = t; which = l; }
            }
            if (least < 0) return -1000002;
            if (what < 2) return what == 0 ? which : least;
            int without = trial(chain);
            return without < 0 ? -1000004 : without - least;
        }

        // ---- sheets: here the machine itself finds the faults

        int sheet(int k, int lane, int n) {
            if (k < 0 || k > 3 || lane < 0 || lane > 2 || n > 40) return BAD;
            try {
                sheets[k] = lane == 0 ? new byte[n] : lane == 1 ? new short[n] : (Object) new int[n];
            } catch (NegativeArraySizeException e) {
                return -14;
            }
            return 1;
        }

        int lay(int k, int i, int v) {
            if (k < 0 || k > 3) return BAD;
            if (sheets[k] == null) return -11;
            try {
                if (sheets[k] instanceof byte[] b) b[i] = (byte) v;
                else if (sheets[k] instanceof short[] s) s[i] = (short) v;
                else ((int[]) sheets[k])[i] = v;
            } catch (ArrayIndexOutOfBoundsException e) {
                return -12;
            }
            return 1;
        }

        int read(int k, int lane, int f) {
            if (k < 0 || k > 3 || lane < 0 || lane > 2) return BAD;
            int[] next = new int[40];
            try {
                Object s = sheets[k];
                s.hashCode();
                byte[] b = lane == 0 ? (byte[]) s : null;
                short[] h = lane == 1 ? (short[]) s : null;
                int[] n = lane == 2 ? (int[]) s : null;
                for (int c = 0; c < columns(); c++) {
                    next[c] = lane == 0 ? b[f + c] : lane == 1 ? h[f + c] : n[f + c];
                    if (next[c] < 0 || next[c] > 26) return -20 - c;
                }
            } catch (NullPointerException e) {
                return -11;
            } catch (ClassCastException e) {
                return -13;
            } catch (ArrayIndexOutOfBoundsException e) {
                return -12;
            }
            line = next;
            return count(0);
        }

        int count(int what) {
            switch (what) {
                case 0: return (int) Arrays.stream(line).filter(l -> l != 0).count();
                case 1: return new TreeSet<>(chain).size();
                case 2: {
                    int n = 0;
                    for (boolean[] r : holes) for (boolean h : r) if (h) n++;
                    return n;
                }
                case 3: return tape.size();
                case 4: return sheets[0] == null ? NONE : java.lang.reflect.Array.getLength(sheets[0]);
                default: return BAD;
            }
        }
    }

    private static int wrong = 0;
    private static long calls = 0;
    private final Random chance;
    private final TypeChain x = new TypeChain();
    private final Model m = new Model();
    private final StringBuilder story = new StringBuilder();

    private ModelTest(long seed) { chance = new Random(seed); }

    private boolean due(String call, int got, int want) {
        calls++;
        story.append("  ").append(call).append(" -> ").append(got).append('\n');
        if (got == want) return true;
        wrong++;
        if (wrong < 4) System.out.println(story + "due is " + want);
        return false;
    }

    private boolean column(int c) { return m.column(c); }

    private int upTo(int n) { return chance.nextInt(n + 1); }

    /** Mostly from low to high, sometimes beside it, seldom anything. */
    private int about(int low, int high) {
        int kind = chance.nextInt(40);
        if (kind == 0) return low - 1;
        if (kind == 1) return high + 1;
        if (kind == 2) return new int[] {Integer.MIN_VALUE, Integer.MAX_VALUE, -7, 1000}[chance.nextInt(4)];
        if (kind == 3) return low;
        if (kind == 4) return high;
        return low + upTo(high - low);
    }

    private String name(int least, int most, int letters) {
        int n = least + upTo(Math.max(0, most - least));
        StringBuilder b = new StringBuilder();
        for (int i = 0; i < n; i++) b.append((char) ('a' + upTo(letters - 1)));
        return b.toString();
    }

    private String of(String chain, int n) {
        StringBuilder b = new StringBuilder();
        for (int i = 0; i < n; i++) b.append(chain.charAt(chance.nextInt(chain.length())));
        return b.toString();
    }

    private String text() {
        StringBuilder b = new StringBuilder();
        int letters = chance.nextInt(4) == 0 ? 26 : 2 + upTo(6);
        List<String> lines = new ArrayList<>();
        boolean large = chance.nextInt(4) == 0;
        String chain = name(2, large ? 48 : 6, letters);
        if (chance.nextInt(8) > 0) lines.add("chain, " + chain + ";");
        else chain = "abcdef";
        // mostly only letters of the chain, so that programs can be done
        if (chance.nextInt(6) == 0) chain = chain + name(1, 2, letters);
        String[] words = {"pitch", "gap", "columns", "power", "start", "step", "rows"};
        int[][] bounds = {{2, 6}, {1, 6}, {1, 40}, {1, 4}, {0, 20}, {1, 20}, {1, 60}};
        for (int w = 0; w < 7; w++) {
            if (chance.nextInt(2) == 0) lines.add(words[w] + " " + (bounds[w][0] + upTo(bounds[w][1] - bounds[w][0])) + ";");
        }
        int rows = 60, columns = 40;
        for (String l : lines) {
            if (l.startsWith("rows ")) rows = Integer.parseInt(l.replaceAll("[^0-9]", ""));
            if (l.startsWith("columns ")) columns = Integer.parseInt(l.replaceAll("[^0-9]", ""));
        }
        if (rows == 60) rows = 12;
        if (columns == 40) columns = 20;
        for (int i = upTo(3); i > 0; i--) lines.add("hole " + upTo(rows - 1) + " " + upTo(3) + ";");
        for (int i = upTo(8); i > 0; i--) {
            int kind = chance.nextInt(6);
            if (kind < 3) {
                String s = of(chain, 1 + upTo(Math.min(columns, chance.nextInt(3) == 0 ? 30 : 6) - 1));
                lines.add("put," + s + " " + upTo(Math.max(0, columns - s.length())) + ";go;");
            } else if (kind == 3) {
                lines.add("put," + of(chain, 1) + "0;");
            } else if (kind == 4) {
                lines.add("space" + upTo(9) + ";");
            } else {
                lines.add("skip " + upTo(chance.nextInt(3) == 0 ? 3 : 0) + ";");
            }
        }
        if (chance.nextInt(12) == 0) for (int i = 0; i < 26; i++) lines.add("go;");
        if (chance.nextInt(5) == 0) {
            String[] faulty = {"pitch 4;", "pitch 1;", "gap 7;", "columns 41;", "columns 1;", "power 0;", "start 21;",
                "step 0;", "rows 61;", "rows 1;", "hole 60 0;", "hole 1 8;", "hole " + rows + " 7;", "space 10;",
                "skip 8;", "put,a 40;", "put,ab " + (columns - 1) + ";", "chain, q;", "chain, ab;",
                "chain," + "q".repeat(48) + ";", "chain," + "q".repeat(49) + ";", "put a 0;", "hole 1;"};
            lines.add(chance.nextInt(lines.size() + 1), faulty[chance.nextInt(faulty.length)]);
        }
        if (chance.nextInt(4) == 0) java.util.Collections.shuffle(lines, chance);
        for (String l : lines) if (b.length() + l.length() <= 240) b.append(l);
        if (chance.nextInt(4) == 0) spoil(b);
        return b.substring(0, Math.min(240, b.length()));
    }

    private void spoil(StringBuilder b) {
        String signs = " ;,.:09azA\n1235";
        for (int i = 1 + upTo(2); i > 0 && b.length() > 0; i--) {
            int at = chance.nextInt(b.length());
            int kind = chance.nextInt(4);
            if (kind == 0) b.deleteCharAt(at);
            else if (kind == 1) b.insert(at, signs.charAt(chance.nextInt(signs.length())));
            else if (kind == 2) b.setCharAt(at, signs.charAt(chance.nextInt(signs.length())));
            else b.setLength(at);
        }
    }

    private boolean tell() {
        String s = text();
        if (chance.nextInt(10) > 0 && !due("end(0)", x.end(0), m.end(0))) return false;
        for (int i = 0; i < s.length(); i += 8) {
            long v = 0;
            for (int j = 0; j < 8; j++) v = v << 8 | (i + j < s.length() ? s.charAt(i + j) & 255 : ' ');
            if (!due("feed(" + v + ")", x.feed(v), m.feed(v))) return false;
        }
        int n = chance.nextInt(6) == 0 ? m.tape.size() : Math.min(s.length(), m.tape.size());
        if (chance.nextInt(12) == 0) n = upTo(n);
        if (!due("end(" + n + ")", x.end(n), m.end(n))) return false;
        if (!due("text() \"" + s + "\"", x.text(), m.text())) return false;
        return due("fault()", x.fault(), m.fault);
    }

    private boolean step() {
        int c = about(0, m.columns() - 1), letter = about(1, Math.min(26, m.chain.size() + 1));
        if (m.chain.size() > 6 || chance.nextInt(9) == 0) letter = about(1, 26);
        else if (chance.nextInt(3) > 0) letter = m.chain.get(chance.nextInt(m.chain.size()));
        int what;
        switch (chance.nextInt(34)) {
            case 0: {
                long v = chance.nextLong();
                return due("feed(" + v + ")", x.feed(v), m.feed(v));
            }
            case 1: what = chance.nextInt(3) == 0 ? about(0, 240) : 0; return due("end(" + what + ")", x.end(what), m.end(what));
            case 2: return chance.nextInt(3) > 0 || tell();
            case 3: return due("fault()", x.fault(), m.fault);
            case 4: what = about(0, 8); return due("rule(" + what + ")", x.rule(what), m.rule(what));
            case 5: what = about(0, m.chain.size() - 1); return due("slug(" + what + ")", x.slug(what), m.slug(what));
            case 6: what = about(0, m.rows() - 1); return due("holes(" + what + ")", x.holes(what), m.holes(what));
            case 7: {
                int k = about(0, Math.max(0, m.program.size() - 1));
                what = chance.nextInt(2) == 0 ? about(0, 2) : about(10, 16);
                return due("order(" + k + ", " + what + ")", x.order(k, what), m.order(k, what));
            }
            case 8: what = about(0, chance.nextInt(4) == 0 ? 1000000 : 90); return due("faces(" + c + ", " + what + ")", x.faces(c, what), m.faces(c, what));
            case 9: what = about(0, chance.nextInt(4) == 0 ? 1000000 : 90); return due("comes(" + c + ", " + letter + ", " + what + ")", x.comes(c, letter, what), m.comes(c, letter, what));
            case 10: what = about(-20, 20); return due("late(" + c + ", " + letter + ", " + what + ")", x.late(c, letter, what), m.late(c, letter, what));
            case 11: case 12: case 13:
                for (int i = upTo(12); i >= 0; i--) {
                    int at = about(0, m.columns() - 1);
                    int l = chance.nextInt(50) == 0 ? about(0, 26) : m.chain.get(chance.nextInt(m.chain.size()));
                    if (!due("put(" + at + ", " + l + ")", x.put(at, l), m.put(at, l))) return false;
                }
                return true;
            case 14: return due("line(" + c + ")", x.line(c), m.line(c));
            case 15: what = about(1, chance.nextInt(2) == 0 ? 40 : 4); return due("ticks(" + what + ")", x.ticks(what), m.ticks(what));
            case 16: case 17: return due("go()", x.go(), m.go());
            case 18: case 19: what = chance.nextInt(2) == 0 ? about(0, 2) : 10 + c; return due("struck(" + what + ")", x.struck(what), m.struck(what));
            case 20: what = about(0, m.chain.size() - 1); return due("slipped(" + what + ", " + c + ")", x.slipped(what, c), m.slipped(what, c));
            case 21: case 22:
                for (int i = 0; i < 9 && m.anyStruck && column(c) && m.struckTick[c] == NONE; i++) c = upTo(m.columns() - 1);
                if (chance.nextInt(3) == 0) letter = NONE; return due("seen(" + c + ", " + letter + ")", x.seen(c, letter), m.seen(c, letter));
            case 23: what = about(0, 1); return due("slips(" + what + ")", x.slips(what), m.slips(what));
            case 24: what = about(0, 9); return due("space(" + what + ")", x.space(what), m.space(what));
            case 25: what = about(0, chance.nextInt(2) == 0 ? 7 : 1); return due("skip(" + what + ")", x.skip(what), m.skip(what));
            case 26: what = about(0, 4); return due("now(" + what + ")", x.now(what), m.now(what));
            case 27: {
                int r = chance.nextInt(2) == 0 ? m.row : about(0, m.rows() - 1);
                what = about(0, 1);
                return due("page(" + r + ", " + c + ", " + what + ")", x.page(r, c, what), m.page(r, c, what));
            }
            case 28: return due("run()", x.run(), m.run());
            case 29: what = about(0, 2); return due("ran(" + what + ")", x.ran(what), m.ran(what));
            case 30: {
                int k = chance.nextInt(3) == 0 ? about(0, 3) : 0, lane = about(0, 2), n = chance.nextInt(2) == 0 ? about(-1, 40) : about(20, 40);
                return due("sheet(" + k + ", " + lane + ", " + n + ")", x.sheet(k, lane, n), m.sheet(k, lane, n));
            }
            case 31:
                for (int i = upTo(6); i >= 0; i--) {
                    int k = about(0, 1), cell = about(-1, 40), v = chance.nextInt(9) > 0 ? letter : chance.nextInt();
                    if (chance.nextInt(9) == 0) v = (v & 26) + (chance.nextBoolean() ? 256 : 65536);
                    if (!due("lay(" + k + ", " + cell + ", " + v + ")", x.lay(k, cell, v), m.lay(k, cell, v))) return false;
                }
                return true;
            case 32: {
                int k = about(0, 1), lane = about(0, 2), f = chance.nextInt(3) > 0 ? 0 : about(-1, 40);
                if (k == 0 && m.sheets[0] != null && chance.nextInt(3) > 0) {
                    lane = m.sheets[0] instanceof byte[] ? 0 : m.sheets[0] instanceof short[] ? 1 : 2;
                }
                return due("read(" + k + ", " + lane + ", " + f + ")", x.read(k, lane, f), m.read(k, lane, f));
            }
            default: what = about(0, 4); return due("count(" + what + ")", x.count(what), m.count(what));
        }
    }

    /** The two dear calls: seldom, as the model tries all orders anew each time. */
    private boolean search() {
        int what = chance.nextInt(3) == 0 ? 0 : about(10, 15);
        if (!due("best(" + what + ")", x.best(what), m.best(what))) return false;
        what = about(0, 2);
        return due("twice(" + what + ")", x.twice(what), m.twice(what));
    }

    private void play(int steps) {
        boolean good = chance.nextInt(3) == 0 || tell();
        for (int i = 0; good && i < steps; i++) {
            good = chance.nextInt(100) == 0 ? search() : step();
        }
        if (good) search();
    }

    public static void main(String[] args) {
        int seeds = args.length > 0 ? Integer.parseInt(args[0]) : 3000;
        for (long seed = 1; seed <= seeds; seed++) new ModelTest(seed).play(120);
        System.out.println(calls + " calls held against the model, " + wrong + " wrong");
        if (wrong != 0) System.exit(1);
    }
}

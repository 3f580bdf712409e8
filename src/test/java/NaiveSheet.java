import java.util.ArrayDeque;
import java.util.ArrayList;
import java.util.Arrays;
import java.util.HashMap;
import java.util.HashSet;
import java.util.List;
import java.util.Map;
import java.util.Set;

/**
 * The document once more, in the plainest form that a reader could write: nothing is kept that can
 * be found again, nothing is cut short. OracleTest holds CelSheet against it.
 */
public final class NaiveSheet {
    static final int NONE = -1;
    static final int NOTHING = Integer.MIN_VALUE;
    static final Set<String> LANGUAGE = new HashSet<>(Arrays.asList("frames", "layer", "on", "loop",
            "stop", "cel", "at", "size", "ink", "slide", "from", "to", "right", "left", "down", "up",
            "hide", "blank", "swing", "x"));

    static final class Fault extends RuntimeException {
        private static final long serialVersionUID = 1L;
        final int kind;
        final int place;

        Fault(int kind, int place) {
            super(null, null, false, false);
            this.kind = kind;
            this.place = place;
        }
    }

    static final class Slide {
        int layer, from, to, dx, dy;
    }

    static final class Told {
        int frames, statements;
        List<String> names = new ArrayList<>();
        List<Integer> on = new ArrayList<>();
        List<int[]> rows = new ArrayList<>();
        List<int[]> boxes = new ArrayList<>();
        List<Slide> slides = new ArrayList<>();
        List<int[]> hides = new ArrayList<>();
    }

    static final class State {
        int[][] rows;
        int[] stack;

        State copy() {
            State s = new State();
            s.rows = new int[rows.length][];
            for (int i = 0; i < rows.length; i++) {
                s.rows[i] = rows[i].clone();
            }
            s.stack = stack.clone();
            return s;
        }
    }

    private final StringBuilder tape = new StringBuilder();
    private Told told = new Told();
    private State state = new State();
    private final State[] kept = new State[2];
    private final ArrayDeque<State> acts = new ArrayDeque<>();
    private int faultKind = 0;
    private int faultPlace = NONE;

    public NaiveSheet() {
        state.rows = new int[0][];
        state.stack = new int[0];
    }

    // ---- reading

    private final class Reading {
        final String t;
        int p = 0;
        int parts;
        final Told s = new Told();

        Reading(String t) {
            this.t = t;
        }

        void blanks() {
            while (p < t.length() && (t.charAt(p) == 32 || t.charAt(p) == 10)) {
                p++;
            }
        }

        String token() {
            blanks();
            if (p == t.length()) {
                return "";
            }
            String rest = t.substring(p);
            String word = rest.replaceAll("(?s)[^a-z].*", "");
            String number = rest.replaceAll("(?s)[^0-9].*", "");
            return !word.isEmpty() ? word : !number.isEmpty() ? number : rest.substring(0, 1);
        }

        boolean take(String what) {
            if (!token().equals(what)) {
                return false;
            }
            p += what.length();
            return true;
        }

        void need(String what) {
            if (!take(what)) {
                throw new Fault(1, p);
            }
        }

        boolean atNumber() {
            return token().matches("[0-9]+");
        }

        int number(int low, int high) {
            String n = token();
            if (!n.matches("[0-9]{1,3}")) {
                throw new Fault(1, p);
            }
            int v = Integer.parseInt(n);
            if (v < low || v > high) {
                throw new Fault(2, p);
            }
            p += n.length();
            return v;
        }

        String name(boolean fresh) {
            String n = token();
            if (!n.matches("[a-z]{1,6}") || LANGUAGE.contains(n)) {
                throw new Fault(1, p);
            }
            if (s.names.contains(n) == fresh) {
                throw new Fault(3, p);
            }
            p += n.length();
            return n;
        }

        Told all() {
            need("frames");
            s.frames = number(1, 96);
            need(";");
            s.statements = 1;
            while (!token().isEmpty()) {
                statement();
                need(";");
                s.statements++;
            }
            if (s.names.isEmpty()) {
                throw new Fault(5, t.length());
            }
            return s;
        }

        void statement() {
            String w = token();
            int begin = p;
            if (!Arrays.asList("layer", "cel", "slide", "hide").contains(w)) {
                throw new Fault(1, begin);
            }
            if (s.statements == 60 || w.equals("layer") && s.names.size() == 6
                    || w.equals("cel") && s.boxes.size() == 40
                    || w.equals("slide") && s.slides.size() == 12
                    || w.equals("hide") && s.hides.size() == 12) {
                throw new Fault(4, begin);
            }
            need(w);
            if (w.equals("layer")) {
                layer();
            } else if (w.equals("cel")) {
                int layer = s.names.indexOf(name(false));
                int drawing = number(1, 99);
                need("at");
                int x = number(0, 11);
                int y = number(0, 7);
                need("size");
                int wide = number(1, 12);
                int high = number(1, 8);
                need("ink");
                s.boxes.add(new int[] {layer, drawing, x, y, wide, high, number(1, 9)});
            } else {
                int layer = s.names.indexOf(name(false));
                need("from");
                int from = number(0, s.frames - 1);
                need("to");
                int to = number(from, s.frames - 1);
                if (w.equals("hide")) {
                    s.hides.add(new int[] {layer, from, to});
                } else {
                    Slide d = new Slide();
                    d.layer = layer;
                    d.from = from;
                    d.to = to;
                    int way = way("right", "left");
                    d.dx = way * number(0, 9);
                    way = way("down", "up");
                    d.dy = way * number(0, 9);
                    s.slides.add(d);
                }
            }
        }

        int way(String more, String less) {
            if (take(more)) {
                return 1;
            }
            need(less);
            return -1;
        }

        void layer() {
            String name = name(true);
            need("on");
            int on = number(1, 24);
            need("=");
            parts = 0;
            List<int[]> holds = line(on, 0);
            boolean loop = take("loop");
            boolean stop = !loop && take("stop");
            List<Integer> all = new ArrayList<>();
            for (int[] h : holds) {
                for (int i = 0; i < h[1]; i++) {
                    all.add(h[0]);
                }
            }
            int[] row = new int[s.frames];
            for (int f = 0; f < s.frames; f++) {
                if (f < all.size()) {
                    row[f] = all.get(f);
                } else {
                    row[f] = loop ? all.get(f % all.size()) : stop ? 0 : all.get(all.size() - 1);
                }
            }
            s.names.add(name);
            s.on.add(on);
            s.rows.add(row);
        }

        List<int[]> line(int on, int open) {
            List<int[]> holds = new ArrayList<>();
            do {
                holds.addAll(part(on, open));
            } while (atNumber() || Arrays.asList("blank", "swing", "(").contains(token()));
            return holds;
        }

        List<int[]> part(int on, int open) {
            token();
            int begin = p;
            List<int[]> holds = new ArrayList<>();
            if (atNumber()) {
                int from = number(1, 99);
                many(begin);
                int to = take("-") ? number(1, 99) : from;
                int frames = take("x") ? number(1, 96) : on;
                for (int d = from; from <= to ? d <= to : d >= to; d += from <= to ? 1 : -1) {
                    holds.add(new int[] {d, frames});
                }
                return holds;
            }
            if (take("blank")) {
                many(begin);
                holds.add(new int[] {0, take("x") ? number(1, 96) : on});
                return holds;
            }
            boolean swing = token().equals("swing");
            if (!swing && !token().equals("(")) {
                throw new Fault(1, begin);
            }
            many(begin);
            take("swing");
            token();
            int bracket = p;
            need("(");
            if (open == 5) {
                throw new Fault(4, bracket);
            }
            List<int[]> inner = line(on, open + 1);
            need(")");
            int times = take("x") ? number(1, 96) : 1;
            List<int[]> once = new ArrayList<>(inner);
            if (swing) {
                for (int i = inner.size() - 2; i >= 1; i--) {
                    once.add(inner.get(i));
                }
            }
            for (int i = 0; i < times; i++) {
                // Far more than any sheet has frames: a guard for the memory alone.
                if (holds.size() < 20000) {
                    holds.addAll(once);
                }
            }
            return holds;
        }

        void many(int begin) {
            parts++;
            if (parts > 40) {
                throw new Fault(4, begin);
            }
        }
    }

    public int feed(int a, int b, int c, int d, int e) {
        if (tape.length() + 20 > 1200) {
            return NONE;
        }
        for (int n : new int[] {a, b, c, d, e}) {
            tape.append((char) (n >>> 24 & 255)).append((char) (n >>> 16 & 255));
            tape.append((char) (n >>> 8 & 255)).append((char) (n & 255));
        }
        return tape.length();
    }

    public boolean end(int n) {
        if (n < 0 || n > tape.length()) {
            return false;
        }
        tape.setLength(n);
        return true;
    }

    public int scene() {
        String t = tape.toString();
        tape.setLength(0);
        try {
            Told s = new Reading(t).all();
            told = s;
            known.clear();
            faultKind = 0;
            faultPlace = NONE;
        } catch (Fault f) {
            faultKind = f.kind;
            faultPlace = f.place;
            return NONE;
        }
        state = new State();
        state.rows = new int[told.rows.size()][];
        state.stack = new int[told.rows.size()];
        for (int i = 0; i < state.rows.length; i++) {
            state.rows[i] = told.rows.get(i).clone();
            state.stack[i] = i;
        }
        acts.clear();
        kept[0] = null;
        kept[1] = null;
        return told.statements;
    }

    public int fault(int what) {
        return what == 0 ? faultKind : what == 1 ? faultPlace : NONE;
    }

    public int named() {
        String t = tape.toString();
        tape.setLength(0);
        return told.names.indexOf(t.replaceAll("^[ \n]+", "").replaceAll("[ \n]+$", ""));
    }

    public int look(int what) {
        switch (what) {
            case 0: return told.frames;
            case 1: return told.names.size();
            case 2: return told.boxes.size();
            case 3: return told.slides.size();
            case 4: return told.hides.size();
            case 5: return acts.size();
            case 6: return tape.length();
            default: return NONE;
        }
    }

    // ---- rows

    private boolean isLayer(int l) {
        return l >= 0 && l < told.names.size();
    }

    private boolean isFrame(int f) {
        return f >= 0 && f < told.frames;
    }

    /** Drawing, frames, first frame of each exposure. */
    private static List<int[]> exposures(int[] row) {
        List<int[]> all = new ArrayList<>();
        for (int f = 0; f < row.length; f++) {
            if (f > 0 && row[f] == row[f - 1]) {
                all.get(all.size() - 1)[1]++;
            } else {
                all.add(new int[] {row[f], 1, f});
            }
        }
        return all;
    }

    private static int filled(int[] row) {
        return (int) Arrays.stream(row).filter(d -> d != 0).count();
    }

    private static int filledExposures(int[] row) {
        return (int) exposures(row).stream().filter(e -> e[0] != 0).count();
    }

    private static int unlike(int[] row) {
        return (int) Arrays.stream(row).filter(d -> d != 0).distinct().count();
    }

    public int layer(int layer, int what) {
        if (!isLayer(layer)) {
            return NONE;
        }
        int[] row = state.rows[layer];
        switch (what) {
            case 0: return told.on.get(layer);
            case 1:
                for (int i = 0; i < state.stack.length; i++) {
                    if (state.stack[i] == layer) {
                        return i;
                    }
                }
                throw new IllegalStateException();
            case 2: return exposures(row).size();
            case 3: return unlike(row);
            case 4: return filled(row);
            case 5:
                int n = 0;
                List<int[]> e = exposures(row);
                for (int i = 1; i < e.size(); i++) {
                    int a = e.get(i - 1)[0];
                    int b = e.get(i)[0];
                    if (a != 0 && b != 0 && Math.abs(a - b) > 1) {
                        n++;
                    }
                }
                return n;
            case 6: return Arrays.stream(row).max().getAsInt();
            default: return NONE;
        }
    }

    public int spelt(int layer, int k) {
        if (!isLayer(layer)) {
            return NONE;
        }
        String n = told.names.get(layer);
        return k == NONE ? n.length() : k >= 0 && k < n.length() ? n.charAt(k) : NONE;
    }

    public int box(int box, int what) {
        return box < 0 || box >= told.boxes.size() || what < 0 || what > 6 ? NONE : told.boxes.get(box)[what];
    }

    public int at(int layer, int frame) {
        return isLayer(layer) && isFrame(frame) ? state.rows[layer][frame] : NONE;
    }

    public int told(int layer, int frame) {
        return isLayer(layer) && isFrame(frame) ? told.rows.get(layer)[frame] : NONE;
    }

    public int hold(int layer, int frame, int what) {
        if (!isLayer(layer) || !isFrame(frame)) {
            return NONE;
        }
        List<int[]> e = exposures(state.rows[layer]);
        for (int i = 0; i < e.size(); i++) {
            int[] x = e.get(i);
            if (x[2] <= frame && frame < x[2] + x[1]) {
                return what == 0 ? x[2] : what == 1 ? x[1] : what == 2 ? i : NONE;
            }
        }
        throw new IllegalStateException();
    }

    public int find(int layer, int drawing, int k) {
        if (!isLayer(layer) || drawing < 0 || drawing > 99) {
            return NONE;
        }
        List<Integer> all = new ArrayList<>();
        for (int f = 0; f < told.frames; f++) {
            if (state.rows[layer][f] == drawing) {
                all.add(f);
            }
        }
        return k >= 0 && k < all.size() ? all.get(k) : NONE;
    }

    public int cycle(int layer, int what) {
        if (!isLayer(layer) || what < 0 || what > 3) {
            return NONE;
        }
        int[] d = state.rows[layer];
        int n = told.frames;
        for (int b = 0; b < n; b++) {
            for (int p = 1; b + 2 * p <= n; p++) {
                boolean good = Arrays.stream(d, b, b + p).distinct().count() >= 2;
                for (int f = b + p; f < n; f++) {
                    good &= d[f] == d[f - p];
                }
                if (good) {
                    int last = d[b + p - 1];
                    int closes = d[b] != 0 && last != 0 && Math.abs(d[b] - last) <= 1 ? 1 : 0;
                    return new int[] {b, p, (n - b) / p, closes}[what];
                }
            }
        }
        return NONE;
    }

    private static boolean alike(List<int[]> a, List<int[]> b) {
        if (a.size() != b.size()) {
            return false;
        }
        for (int i = 0; i < a.size(); i++) {
            if (a.get(i)[0] != b.get(i)[0] || a.get(i)[1] != b.get(i)[1]) {
                return false;
            }
        }
        return true;
    }

    private static int marks(List<int[]> e, int i, int j, Map<Integer, Integer> known) {
        int n = j - i;
        if (n <= 1) {
            return n;
        }
        Integer k = known.get(i * 100 + j);
        if (k != null) {
            return k;
        }
        int least = n;
        for (int step = -1; step <= 1; step += 2) {
            boolean run = e.get(i)[0] != 0;
            for (int m = i + 1; m < j; m++) {
                run &= e.get(m)[0] != 0 && e.get(m)[1] == e.get(i)[1] && e.get(m)[0] == e.get(m - 1)[0] + step;
            }
            least = run ? Math.min(least, 2) : least;
        }
        for (int m = i + 1; m < j; m++) {
            least = Math.min(least, marks(e, i, m, known) + marks(e, m, j, known));
            List<int[]> one = e.subList(i, m);
            List<int[]> many = new ArrayList<>();
            while (many.size() < n) {
                many.addAll(one);
            }
            List<int[]> there = new ArrayList<>(one);
            for (int q = one.size() - 2; q >= 1; q--) {
                there.add(one.get(q));
            }
            if (alike(many, e.subList(i, j)) || alike(there, e.subList(i, j))) {
                least = Math.min(least, marks(e, i, m, known) + 1);
            }
        }
        known.put(i * 100 + j, least);
        return least;
    }

    public int marks(int layer) {
        if (!isLayer(layer)) {
            return NONE;
        }
        List<int[]> e = exposures(state.rows[layer]);
        return marks(e, 0, e.size(), new HashMap<>());
    }

    public int shift(int layer, int frame, int what) {
        if (!isLayer(layer) || !isFrame(frame) || what < 0 || what > 1) {
            return NOTHING;
        }
        int sum = 0;
        for (int f = 0; f <= frame; f++) {
            for (Slide s : told.slides) {
                if (s.layer == layer && s.from <= f && f <= s.to) {
                    sum += what == 0 ? s.dx : s.dy;
                }
            }
        }
        return sum;
    }

    public int hidden(int layer, int frame) {
        if (!isLayer(layer) || !isFrame(frame)) {
            return NONE;
        }
        for (int[] h : told.hides) {
            if (h[0] == layer && h[1] <= frame && frame <= h[2]) {
                return 1;
            }
        }
        return 0;
    }

    // ---- frames

    /** The layer and the ink at a place: {NONE, 0} for paper. */
    private int[] place(State s, int frame, int x, int y) {
        for (int p = s.stack.length - 1; p >= 0; p--) {
            int l = s.stack[p];
            if (hidden(l, frame) == 1) {
                continue;
            }
            int dx = shift(l, frame, 0);
            int dy = shift(l, frame, 1);
            for (int b = told.boxes.size() - 1; b >= 0; b--) {
                int[] q = told.boxes.get(b);
                if (q[0] == l && q[1] == s.rows[l][frame] && x - dx >= q[2] && x - dx < q[2] + q[4]
                        && y - dy >= q[3] && y - dy < q[3] + q[5]) {
                    return new int[] {l, q[6]};
                }
            }
        }
        return new int[] {NONE, 0};
    }

    // By all that a picture depends on in one scene, for the time that OracleTest takes.
    private final Map<String, String> known = new HashMap<>();

    private String picture(State s, int frame) {
        StringBuilder key = new StringBuilder().append(frame).append(Arrays.toString(s.stack));
        for (int[] row : s.rows) {
            key.append(' ').append(row[frame]);
        }
        return known.computeIfAbsent(key.toString(), k -> newPicture(s, frame));
    }

    private String newPicture(State s, int frame) {
        StringBuilder b = new StringBuilder();
        for (int y = 0; y < 8; y++) {
            for (int x = 0; x < 12; x++) {
                b.append(place(s, frame, x, y)[1]);
            }
        }
        return b.toString();
    }

    private List<String> pictures(State s) {
        List<String> all = new ArrayList<>();
        for (int f = 0; f < told.frames; f++) {
            all.add(picture(s, f));
        }
        return all;
    }

    private int takes(State s) {
        return new HashSet<>(pictures(s)).size();
    }

    private boolean isPlace(int frame, int x, int y) {
        return isFrame(frame) && x >= 0 && x < 12 && y >= 0 && y < 8;
    }

    public int cell(int frame, int x, int y) {
        return isPlace(frame, x, y) ? place(state, frame, x, y)[1] : NONE;
    }

    public int top(int frame, int x, int y) {
        return isPlace(frame, x, y) ? place(state, frame, x, y)[0] : NONE;
    }

    public int ink(int frame, int ink) {
        if (!isFrame(frame) || ink < 0 || ink > 9) {
            return NONE;
        }
        return (int) picture(state, frame).chars().filter(c -> c - '0' == ink).count();
    }

    public int seen(int layer, int frame) {
        if (!isLayer(layer) || !isFrame(frame)) {
            return NONE;
        }
        int n = 0;
        for (int y = 0; y < 8; y++) {
            for (int x = 0; x < 12; x++) {
                n += place(state, frame, x, y)[0] == layer ? 1 : 0;
            }
        }
        return n;
    }

    public int same(int frame, int other) {
        if (!isFrame(frame) || !isFrame(other)) {
            return NONE;
        }
        return picture(state, frame).equals(picture(state, other)) ? 1 : 0;
    }

    public int like(int frame, int what) {
        if (!isFrame(frame) || what < 0 || what > 1) {
            return NONE;
        }
        List<String> all = pictures(state);
        String p = all.get(frame);
        return what == 0 ? all.indexOf(p) : (int) all.stream().filter(p::equals).count();
    }

    public int take(int k) {
        List<String> all = pictures(state);
        List<Integer> takes = new ArrayList<>();
        for (int f = 0; f < all.size(); f++) {
            if (all.indexOf(all.get(f)) == f) {
                takes.add(f);
            }
        }
        return k == NONE ? takes.size() : k >= 0 && k < takes.size() ? takes.get(k) : NONE;
    }

    public int still(int what) {
        if (told.frames == 0 || what < 0 || what > 1) {
            return NONE;
        }
        List<String> all = pictures(state);
        for (int n = told.frames; n >= 1; n--) {
            for (int f = 0; f + n <= told.frames; f++) {
                if (new HashSet<>(all.subList(f, f + n)).size() == 1) {
                    return what == 0 ? n : f;
                }
            }
        }
        throw new IllegalStateException();
    }

    public int changes(int frame) {
        if (!isFrame(frame)) {
            return NONE;
        }
        int n = 0;
        for (int[] row : state.rows) {
            n += row[frame] != (frame == 0 ? 0 : row[frame - 1]) ? 1 : 0;
        }
        return n;
    }

    public int saved(int what) {
        if (told.frames == 0 || what < 0 || what > 3) {
            return NONE;
        }
        if (what == 0) {
            return told.frames - takes(state);
        }
        int sum = 0;
        for (int l = 0; l < state.rows.length; l++) {
            int[] row = state.rows[l];
            sum += what == 1 ? filled(row) - filledExposures(row)
                    : what == 2 ? filledExposures(row) - unlike(row) : exposures(row).size() - marks(l);
        }
        return sum;
    }

    // ---- what would be

    private int[] turnedRow(int[] row, int k) {
        int[] r = new int[row.length];
        for (int f = 0; f < r.length; f++) {
            r[f] = row[(f + k) % row.length];
        }
        return r;
    }

    private int[] twosRow(int[] row) {
        int[] r = row.clone();
        for (int f = 1; f < r.length; f += 2) {
            r[f] = row[f - 1];
        }
        return r;
    }

    private int takesWith(int layer, int[] row) {
        State s = state.copy();
        s.rows[layer] = row;
        return takes(s);
    }

    private static int differ(int[] a, int[] b) {
        int n = 0;
        for (int i = 0; i < a.length; i++) {
            n += a[i] != b[i] ? 1 : 0;
        }
        return n;
    }

    public int turned(int layer, int k) {
        return isLayer(layer) && isFrame(k) ? takesWith(layer, turnedRow(state.rows[layer], k)) : NONE;
    }

    public int best(int layer, int what) {
        if (!isLayer(layer) || what < 0 || what > 1) {
            return NONE;
        }
        int best = 0;
        int fewest = turned(layer, 0);
        for (int k = 1; k < told.frames; k++) {
            int takes = turned(layer, k);
            if (takes < fewest) {
                best = k;
                fewest = takes;
            }
        }
        return what == 0 ? best : fewest;
    }

    public int without(int layer) {
        return isLayer(layer) ? takesWith(layer, new int[told.frames]) : NONE;
    }

    public int doubled(int layer, int what) {
        if (!isLayer(layer) || what < 0 || what > 2) {
            return NONE;
        }
        int[] r = twosRow(state.rows[layer]);
        return what == 0 ? differ(r, state.rows[layer]) : what == 1 ? exposures(r).size() : takesWith(layer, r);
    }

    // ---- acts

    private int act(int layer, int[] row) {
        int n = differ(row, state.rows[layer]);
        acts.addLast(state.copy());
        if (acts.size() > 20) {
            acts.removeFirst();
        }
        state.rows[layer] = row;
        return n;
    }

    public int expose(int layer, int from, int to, int drawing) {
        if (!isLayer(layer) || !isFrame(from) || !isFrame(to) || to < from || drawing < 0 || drawing > 99) {
            return -2;
        }
        int[] r = state.rows[layer].clone();
        Arrays.fill(r, from, to + 1, drawing);
        return differ(r, state.rows[layer]) == 0 ? -3 : act(layer, r);
    }

    public int push(int layer, int frame, int n) {
        if (!isLayer(layer) || !isFrame(frame) || n < 1 || n > 96) {
            return -2;
        }
        List<Integer> all = new ArrayList<>();
        for (int d : state.rows[layer]) {
            all.add(d);
        }
        for (int i = 0; i < n; i++) {
            all.add(frame, state.rows[layer][frame]);
        }
        int lost = 0;
        for (int d : all.subList(told.frames, all.size())) {
            lost += d != 0 ? 1 : 0;
        }
        // What is lost is only what the layer had: new frames behind the last one never came.
        int came = told.frames - frame;
        int extra = n > came && state.rows[layer][frame] != 0 ? n - came : 0;
        act(layer, all.subList(0, told.frames).stream().mapToInt(i -> i).toArray());
        return lost - extra;
    }

    public int pull(int layer, int frame, int n) {
        if (!isLayer(layer) || !isFrame(frame) || n < 1 || n > told.frames - frame) {
            return -2;
        }
        List<Integer> all = new ArrayList<>();
        for (int d : state.rows[layer]) {
            all.add(d);
        }
        for (int i = 0; i < n; i++) {
            all.remove(frame);
        }
        int last = all.isEmpty() ? 0 : all.get(all.size() - 1);
        while (all.size() < told.frames) {
            all.add(last);
        }
        return act(layer, all.stream().mapToInt(i -> i).toArray());
    }

    public int turn(int layer, int k) {
        if (!isLayer(layer) || k < 1 || k >= told.frames) {
            return -2;
        }
        return act(layer, turnedRow(state.rows[layer], k));
    }

    public int raise(int layer) {
        if (!isLayer(layer)) {
            return -2;
        }
        int p = layer(layer, 1);
        if (p == state.stack.length - 1) {
            return -3;
        }
        act(layer, state.rows[layer].clone());
        state.stack[p] = state.stack[p + 1];
        state.stack[p + 1] = layer;
        return p + 1;
    }

    public int twos(int layer) {
        if (!isLayer(layer)) {
            return -2;
        }
        int[] r = twosRow(state.rows[layer]);
        return differ(r, state.rows[layer]) == 0 ? -3 : act(layer, r);
    }

    public int undo() {
        if (acts.isEmpty()) {
            return -3;
        }
        state = acts.removeLast();
        return acts.size();
    }

    public int keep(int k) {
        if (k < 0 || k > 1) {
            return -2;
        }
        if (told.frames == 0) {
            return -3;
        }
        kept[k] = state.copy();
        return told.frames;
    }

    public int back(int k) {
        if (k < 0 || k > 1) {
            return -2;
        }
        if (kept[k] == null) {
            return -3;
        }
        state = kept[k].copy();
        acts.clear();
        return told.frames;
    }

    public int apart(int k) {
        if (k < 0 || k > 1) {
            return -2;
        }
        if (kept[k] == null) {
            return -3;
        }
        int n = 0;
        for (int l = 0; l < state.rows.length; l++) {
            n += differ(state.rows[l], kept[k].rows[l]);
        }
        return n;
    }
}

import java.util.ArrayList;
import java.util.List;

/**
 * Calls that are refused, in each state in which it matters: their answers, and that nothing is changed by
 * them, nor by a call that only asks. What an object has is read from objects made alike, so that none of
 * them has more than its 512 calls.
 */
public final class RefusedTest {
    private static final int NONE = Edge.NONE;
    private static final int NOTHING = Edge.NOTHING;
    private static final int MIN = Edge.MIN;
    private static final int MAX = Edge.MAX;
    private static final int PROBES = 7;
    private static final String WRONG = "frames 3;layer a on 1=1 2 3;layer a";

    private interface Ask {
        int of(CelSheet x);
    }

    /** An object in a state, and what the refusals depend on. */
    private static final class State {
        String name;
        String scene;
        boolean acts;
        boolean kept;
        String tape = "";

        CelSheet make() {
            CelSheet x = Edge.object(scene);
            if (name.contains("fault")) {
                Due.scene(x, WRONG);
            }
            if (kept) {
                x.keep(0);
            }
            int last = Math.max(0, x.look(1) - 1);
            for (int n = 0; acts && n < 20; n++) {
                act(x, n, last);
            }
            if (kept) {
                x.keep(1);
            }
            Due.tell(x, tape);
            return x;
        }

        /** One of twenty that change something, each. */
        private void act(CelSheet x, int n, int last) {
            if (last == 0) {
                x.expose(0, 0, 0, 2 + n);
            } else if (n == 5 || n == 6) {
                x.raise(1);
            } else if (scene.equals(Edge.MOVED)) {
                x.expose(n % 3, n, 95, 2 + n);
            } else if (n == 7) {
                x.twos(0);
            } else if (n % 4 == 0) {
                x.turn(last, 1 + n);
            } else if (n % 4 == 1) {
                x.push(last, n, 2);
            } else if (n % 4 == 2) {
                x.pull(2, n, 1);
            } else {
                x.expose(last, n, 95, n);
            }
        }
    }

    private static State state(String name, String scene, boolean acts, boolean kept, String tape) {
        State s = new State();
        s.name = name;
        s.scene = scene;
        s.acts = acts;
        s.kept = kept;
        s.tape = tape;
        return s;
    }

    private static State now;
    private static String[] untouched;
    private static boolean withFault;

    private RefusedTest() {
    }

    public static void main(String[] args) {
        String full = Edge.LEAST + " ".repeat(1200 - Edge.LEAST.length());
        State[] states = {
            state("no scene", Edge.NO_SCENE, false, false, ""),
            state("no scene, a fault", Edge.NO_SCENE, false, false, "ab"),
            state("the least", Edge.LEAST, false, false, Edge.LEAST),
            state("the least with acts and kept", Edge.LEAST, true, true, " a"),
            state("the least with a fault and kept", Edge.LEAST, false, true, full),
            state("a full one", Edge.FULL, false, false, "abcdef "),
            state("a full one with acts", Edge.FULL, true, false, full.substring(0, 1181)),
            state("a full one with acts and kept", Edge.FULL, true, true, full),
            state("a moved one with acts and kept, a fault", Edge.MOVED, true, true, "a")};
        for (State s : states) {
            now = s;
            Due.due(s.name + ": acts", s.make().look(5), s.acts ? 20 : 0);
            withFault = true;
            untouched = read(x -> 0);
            refusedTexts();
            refusedTold();
            refusedFrames();
            refusedWouldBe();
            refusedActs();
            refusedKept();
            asked();
            withFault = false;
            refusedScenes();
        }
        Due.end("RefusedTest");
    }

    // ---- what an object has

    private static String[] read(Ask ahead) {
        String[] all = new String[PROBES];
        for (int probe = 0; probe < PROBES; probe++) {
            CelSheet x = now.make();
            ahead.of(x);
            StringBuilder b = new StringBuilder();
            switch (probe) {
                case 0: readTold(x, b); break;
                case 1: readFrames(x, b); break;
                case 2: readDrawings(x, b, 0, 3); break;
                case 3: readDrawings(x, b, 3, 6); break;
                case 4: readUndone(x, b); break;
                case 5: readKept(x, b); break;
                default: readTape(x, b);
            }
            all[probe] = b.toString();
        }
        return all;
    }

    private static void put(StringBuilder b, int answer) {
        b.append(answer).append(' ');
    }

    private static int[] some(int count) {
        return count == 0 ? new int[0] : count == 1 ? new int[] {0} : new int[] {0, count - 1};
    }

    private static void readTold(CelSheet x, StringBuilder b) {
        for (int what = 0; what <= 6; what++) {
            put(b, x.look(what));
        }
        put(b, withFault ? x.fault(0) : 0);
        put(b, withFault ? x.fault(1) : 0);
        for (int layer = 0; layer < x.look(1); layer++) {
            for (int what = 0; what <= 6; what++) {
                put(b, x.layer(layer, what));
            }
            put(b, x.spelt(layer, NONE));
            put(b, x.spelt(layer, 0));
            put(b, x.marks(layer));
            for (int what = 0; what <= 3; what++) {
                put(b, x.cycle(layer, what));
            }
            for (int frame : some(x.look(0))) {
                put(b, x.told(layer, frame));
                put(b, x.hold(layer, frame, 1));
                put(b, x.hold(layer, frame, 2));
                put(b, x.shift(layer, frame, 0));
                put(b, x.shift(layer, frame, 1));
                put(b, x.hidden(layer, frame));
            }
        }
        for (int box : some(x.look(2))) {
            for (int what = 0; what <= 6; what++) {
                put(b, x.box(box, what));
            }
        }
    }

    private static void readFrames(CelSheet x, StringBuilder b) {
        for (int frame : some(x.look(0))) {
            for (int ink = 0; ink <= 9; ink++) {
                put(b, x.ink(frame, ink));
            }
            put(b, x.cell(frame, 0, 0));
            put(b, x.top(frame, 11, 7));
            put(b, x.like(frame, 0));
            put(b, x.like(frame, 1));
            put(b, x.changes(frame));
        }
        for (int layer : some(x.look(1))) {
            put(b, x.seen(layer, 0));
            put(b, x.turned(layer, 0));
            put(b, x.best(layer, 0));
            put(b, x.best(layer, 1));
            put(b, x.without(layer));
            for (int what = 0; what <= 2; what++) {
                put(b, x.doubled(layer, what));
            }
        }
        for (int k = -1; k <= 3; k++) {
            put(b, x.take(k));
            put(b, x.saved(k));
            put(b, x.still(k));
            put(b, x.apart(k));
        }
    }

    private static void readDrawings(CelSheet x, StringBuilder b, int from, int stop) {
        for (int layer = from; layer < Math.min(stop, x.look(1)); layer++) {
            b.append(Edge.drawings(x, layer));
        }
    }

    private static void readState(CelSheet x, StringBuilder b) {
        for (int layer : some(x.look(1))) {
            put(b, x.layer(layer, 1));
            for (int frame : some(x.look(0))) {
                put(b, x.at(layer, frame));
            }
        }
    }

    private static void readUndone(CelSheet x, StringBuilder b) {
        for (int n = 0; n <= 21; n++) {
            put(b, x.undo());
            readState(x, b);
        }
    }

    private static void readKept(CelSheet x, StringBuilder b) {
        for (int k = 0; k <= 1; k++) {
            put(b, x.back(k));
            readState(x, b);
            put(b, x.look(5));
            put(b, x.apart(0));
            put(b, x.apart(1));
        }
    }

    private static void readTape(CelSheet x, StringBuilder b) {
        // A scene, if it is one; else a name that may stand there is told behind it.
        put(b, x.scene());
        put(b, x.fault(0));
        put(b, x.fault(1));
        put(b, x.look(0));
    }

    // ---- one call

    private static void unchanged(String what, Ask ask) {
        String[] got = read(ask);
        for (int probe = 0; probe < PROBES; probe++) {
            if (!got[probe].equals(untouched[probe])) {
                Due.due(now.name + ": " + what + " changed something (" + probe + "): " + got[probe] + " was "
                        + untouched[probe], 1, 0);
            } else {
                Due.due("", 0, 0);
            }
        }
    }

    private static void refused(String what, int due, Ask ask) {
        Due.due(now.name + ": " + what, ask.of(now.make()), due);
        unchanged(what, ask);
    }

    private static int[] wrong(int count) {
        return count == 0 ? new int[] {MIN, -1, 0, 1, MAX} : new int[] {MIN, -1, count, MAX};
    }

    private static int layers() {
        return now.make().look(1);
    }

    private static int frames() {
        return now.make().look(0);
    }

    private static void refusedTexts() {
        int length = now.tape.length();
        if (length > 1180) {
            refused("feed", NONE, x -> x.feed(0x61626364, 0, 1, 2, 3));
        }
        for (int n : new int[] {MIN, -1, length + 1, length + 20, 1201, MAX}) {
            refused("end(" + n + ")", 0, x -> x.end(n) ? 1 : 0);
        }
        refused("end(length)", 1, x -> x.end(length) ? 1 : 0);
        for (int n : new int[] {MIN, -1, 2, MAX}) {
            refused("fault(" + n + ")", NONE, x -> x.fault(n));
        }
        for (int n : new int[] {MIN, -1, 7, MAX}) {
            refused("look(" + n + ")", NONE, x -> x.look(n));
        }
    }

    private static void refusedTold() {
        for (int n : wrong(layers())) {
            refused("layer(" + n + ", 0)", NONE, x -> x.layer(n, 0));
            refused("spelt(" + n + ", 0)", NONE, x -> x.spelt(n, 0));
            refused("spelt(" + n + ", -1)", NONE, x -> x.spelt(n, NONE));
            refused("at(" + n + ", 0)", NONE, x -> x.at(n, 0));
            refused("told(" + n + ", 0)", NONE, x -> x.told(n, 0));
            refused("hold(" + n + ", 0, 0)", NONE, x -> x.hold(n, 0, 0));
            refused("find(" + n + ", 0, 0)", NONE, x -> x.find(n, 0, 0));
            refused("cycle(" + n + ", 0)", NONE, x -> x.cycle(n, 0));
            refused("marks(" + n + ")", NONE, x -> x.marks(n));
            refused("shift(" + n + ", 0, 0)", NOTHING, x -> x.shift(n, 0, 0));
            refused("hidden(" + n + ", 0)", NONE, x -> x.hidden(n, 0));
            refused("seen(" + n + ", 0)", NONE, x -> x.seen(n, 0));
        }
        for (int n : wrong(frames())) {
            refused("at(0, " + n + ")", NONE, x -> x.at(0, n));
            refused("told(0, " + n + ")", NONE, x -> x.told(0, n));
            refused("hold(0, " + n + ", 0)", NONE, x -> x.hold(0, n, 0));
            refused("shift(0, " + n + ", 0)", NOTHING, x -> x.shift(0, n, 0));
            refused("hidden(0, " + n + ")", NONE, x -> x.hidden(0, n));
            refused("seen(0, " + n + ")", NONE, x -> x.seen(0, n));
        }
        for (int n : wrong(now.make().look(2))) {
            refused("box(" + n + ", 0)", NONE, x -> x.box(n, 0));
        }
        for (int n : new int[] {MIN, -2, 6, 7, MAX}) {
            refused("spelt(0, " + n + ")", NONE, x -> x.spelt(0, n));
        }
        for (int n : new int[] {MIN, -1, 7, MAX}) {
            refused("layer(0, " + n + ")", NONE, x -> x.layer(0, n));
            refused("box(0, " + n + ")", NONE, x -> x.box(0, n));
            refused("hold(0, 0, " + n + ")", NONE, x -> x.hold(0, 0, n));
            refused("cycle(0, " + n + ")", NONE, x -> x.cycle(0, n));
            refused("shift(0, 0, " + n + ")", NOTHING, x -> x.shift(0, 0, n));
        }
        for (int n : new int[] {MIN, -1, 100, MAX}) {
            refused("find(0, " + n + ", 0)", NONE, x -> x.find(0, n, 0));
            refused("find(0, 0, " + n + ")", NONE, x -> x.find(0, 0, n));
        }
    }

    private static void refusedFrames() {
        for (int n : wrong(frames())) {
            refused("cell(" + n + ", 0, 0)", NONE, x -> x.cell(n, 0, 0));
            refused("top(" + n + ", 0, 0)", NONE, x -> x.top(n, 0, 0));
            refused("ink(" + n + ", 0)", NONE, x -> x.ink(n, 0));
            refused("same(" + n + ", 0)", NONE, x -> x.same(n, 0));
            refused("same(0, " + n + ")", NONE, x -> x.same(0, n));
            refused("like(" + n + ", 0)", NONE, x -> x.like(n, 0));
            refused("changes(" + n + ")", NONE, x -> x.changes(n));
        }
        for (int n : new int[] {MIN, -1, 12, MAX}) {
            refused("cell(0, " + n + ", 0)", NONE, x -> x.cell(0, n, 0));
            refused("cell(0, 0, " + n + ")", NONE, x -> x.cell(0, 0, n));
            refused("top(0, " + n + ", 0)", NONE, x -> x.top(0, n, 0));
            refused("top(0, 0, " + n + ")", NONE, x -> x.top(0, 0, n));
            refused("ink(0, " + n + ")", NONE, x -> x.ink(0, n));
            refused("like(0, " + n + ")", NONE, x -> x.like(0, n));
            refused("still(" + n + ")", NONE, x -> x.still(n));
            refused("saved(" + n + ")", NONE, x -> x.saved(n));
        }
        for (int n : new int[] {MIN, -2, 96, MAX}) {
            refused("take(" + n + ")", NONE, x -> x.take(n));
        }
    }

    private static void refusedWouldBe() {
        for (int n : wrong(layers())) {
            refused("turned(" + n + ", 0)", NONE, x -> x.turned(n, 0));
            refused("best(" + n + ", 0)", NONE, x -> x.best(n, 0));
            refused("without(" + n + ")", NONE, x -> x.without(n));
            refused("doubled(" + n + ", 0)", NONE, x -> x.doubled(n, 0));
        }
        for (int n : wrong(frames())) {
            refused("turned(0, " + n + ")", NONE, x -> x.turned(0, n));
        }
        for (int n : new int[] {MIN, -1, 3, MAX}) {
            refused("best(0, " + n + ")", NONE, x -> x.best(0, n));
            refused("doubled(0, " + n + ")", NONE, x -> x.doubled(0, n));
        }
    }

    private static void refusedActs() {
        int last = layers() - 1;
        int frames = frames();
        for (int n : wrong(layers())) {
            refused("expose(" + n + ", 0, 0, 98)", -2, x -> x.expose(n, 0, 0, 98));
            refused("push(" + n + ", 0, 1)", -2, x -> x.push(n, 0, 1));
            refused("pull(" + n + ", 0, 1)", -2, x -> x.pull(n, 0, 1));
            refused("turn(" + n + ", 1)", -2, x -> x.turn(n, 1));
            refused("raise(" + n + ")", -2, x -> x.raise(n));
            refused("twos(" + n + ")", -2, x -> x.twos(n));
        }
        for (int n : wrong(frames)) {
            refused("expose(0, " + n + ", 0, 98)", -2, x -> x.expose(0, n, 0, 98));
            refused("expose(0, 0, " + n + ", 98)", -2, x -> x.expose(0, 0, n, 98));
            refused("expose(0, " + n + ", " + n + ", 98)", -2, x -> x.expose(0, n, n, 98));
            refused("push(0, " + n + ", 1)", -2, x -> x.push(0, n, 1));
            refused("pull(0, " + n + ", 1)", -2, x -> x.pull(0, n, 1));
            refused("turn(0, " + n + ")", -2, x -> x.turn(0, n));
        }
        refused("expose(0, 1, 0, 98)", -2, x -> x.expose(0, 1, 0, 98));
        refused("expose(0, 95, 94, 98)", -2, x -> x.expose(0, 95, 94, 98));
        refused("turn(0, 0)", -2, x -> x.turn(0, 0));
        for (int n : new int[] {MIN, -1, 100, MAX}) {
            refused("expose(0, 0, 0, " + n + ")", -2, x -> x.expose(0, 0, 0, n));
        }
        for (int n : new int[] {MIN, -1, 0, 97, MAX}) {
            refused("push(0, 0, " + n + ")", -2, x -> x.push(0, 0, n));
            refused("pull(0, 0, " + n + ")", -2, x -> x.pull(0, 0, n));
        }
        refused("pull(0, 0, frames and 1)", -2, x -> x.pull(0, 0, frames + 1));
        refused("pull of one too many from the last frame", -2, x -> x.pull(0, frames - 1, 2));
        if (last >= 0) {
            // The moved and the full scene have a layer that is on twos as it is, and one that is the highest.
            refused("expose as it is", -3, x -> x.expose(last, frames - 1, frames - 1, x.at(last, frames - 1)));
            refused("raise of the highest", -3, x -> x.raise(highest(x)));
            refused("twos of what is on twos", -3, x -> x.twos(last == 0 ? 0 : 3));
        }
        if (!now.acts) {
            refused("undo", -3, CelSheet::undo);
        }
    }

    private static int highest(CelSheet x) {
        int highest = 0;
        for (int layer = 1; layer < x.look(1); layer++) {
            highest = x.layer(layer, 1) > x.layer(highest, 1) ? layer : highest;
        }
        return highest;
    }

    private static void refusedKept() {
        for (int n : new int[] {MIN, -1, 2, MAX}) {
            refused("keep(" + n + ")", -2, x -> x.keep(n));
            refused("back(" + n + ")", -2, x -> x.back(n));
            refused("apart(" + n + ")", -2, x -> x.apart(n));
        }
        for (int k = 0; k <= 1; k++) {
            int n = k;
            if (now.scene == Edge.NO_SCENE) {
                refused("keep(" + n + ")", -3, x -> x.keep(n));
            }
            if (!now.kept) {
                refused("back(" + n + ")", -3, x -> x.back(n));
                refused("apart(" + n + ")", -3, x -> x.apart(n));
            }
        }
    }

    /** Calls that only ask, with what is right. */
    private static void asked() {
        List<Ask> asks = new ArrayList<>();
        int last = Math.max(0, layers() - 1);
        int end = Math.max(0, frames() - 1);
        asks.add(x -> x.fault(0) + x.fault(1) + x.look(0) + x.look(5) + x.look(6));
        asks.add(x -> x.layer(last, 1) + x.layer(last, 6) + x.spelt(last, NONE) + x.spelt(0, 0) + x.box(0, 6));
        asks.add(x -> x.at(last, end) + x.told(last, end) + x.hold(last, end, 2) + x.find(last, 1, 0));
        asks.add(x -> x.cycle(last, 3) + x.marks(last) + x.marks(0) + x.shift(last, end, 1) + x.hidden(last, end));
        asks.add(x -> x.cell(end, 11, 7) + x.top(end, 11, 7) + x.ink(end, 9) + x.seen(last, end));
        asks.add(x -> x.same(0, end) + x.like(end, 0) + x.like(end, 1) + x.take(NONE) + x.take(1));
        asks.add(x -> x.still(0) + x.still(1) + x.changes(end) + x.saved(0) + x.saved(3));
        asks.add(x -> x.turned(0, end) + x.turned(last, end));
        asks.add(x -> x.best(0, 0) + x.best(last, 1));
        asks.add(x -> x.without(0) + x.without(last));
        asks.add(x -> x.doubled(0, 0) + x.doubled(0, 1) + x.doubled(last, 2));
        asks.add(x -> x.apart(0) + x.apart(1));
        for (int i = 0; i < asks.size(); i++) {
            unchanged("asking " + i, asks.get(i));
        }
    }

    /** scene() with a fault, and named() without a name, empty the tape and change nothing else. */
    private static void refusedScenes() {
        untouched = read(x -> x.end(0) ? 1 : 0);
        for (String text : new String[] {"", "frames 9;", WRONG, Edge.FULL + "?", "frames 2;layer b on 1=2;hide c"}) {
            refused("scene() of " + text, NONE, x -> {
                x.end(0);
                return Due.scene(x, text);
            });
        }
        for (String text : new String[] {"", "zz", "a a", "frames", Edge.LEAST}) {
            refused("named() of " + text, NONE, x -> {
                x.end(0);
                Due.tell(x, text);
                return x.named();
            });
        }
        refused("a name that is there", now.scene == Edge.NO_SCENE ? NONE : 0, x -> {
            x.end(0);
            Due.tell(x, "\na ");
            return x.named();
        });
    }
}

/** Promises 33 to 42 at their edges: acts, undone and kept. */
public final class ActEdgesTest {
    private static final int NONE = Edge.NONE;
    private static final String SIX = "frames 6;layer a on 1=1-6;";
    private static final String GAPS = "frames 6;layer a on 1=1 blank x2 4 blank x1 6;";
    private static final String BLANK = "frames 1;layer a on 1=blank;";

    private ActEdgesTest() {
    }

    private static void due(String what, int got, int want) {
        Due.due(what, got, want);
    }

    public static void main(String[] args) {
        exposeBounds();
        exposeCounts();
        exposeIdle();
        pushBounds();
        pushCounts();
        pullBounds();
        pullCounts();
        turnBounds();
        turnCounts();
        raiseBounds();
        raiseStack();
        twosBounds();
        twosCounts();
        undoBounds();
        undoTwenty();
        undoEach();
        undoAndRefused();
        undoBehindUndo();
        keepBounds();
        keptApart();
        keepAndUndo();
        backBounds();
        backAndActs();
        apartCounts();
        keptAndScenes();
        refusalsInOrder();
        Due.end("ActEdgesTest");
    }

    /** An act on an object of its own: its answer, the row then, that one act can be undone, and that it is. */
    private static void act(String scene, String what, Edge.Ask ask, int layer, int answer, int... row) {
        CelSheet x = Edge.object(scene);
        String ahead = Edge.drawings(x, layer);
        due(what, ask.of(x, 0), answer);
        Due.row(x, layer, row);
        due("acts behind " + what, x.look(5), 1);
        due("undo of " + what, x.undo(), 0);
        Edge.alike(what + " undone", Edge.drawings(x, layer), ahead);
    }

    /** A call that is refused: its answer, and that it is no act and changes no drawing. */
    private static void noAct(String scene, String what, Edge.Ask ask, int answer) {
        CelSheet x = Edge.object(scene);
        StringBuilder ahead = new StringBuilder();
        StringBuilder behind = new StringBuilder();
        for (int layer = 0; layer < Math.min(2, x.look(1)); layer++) {
            ahead.append(Edge.drawings(x, layer));
        }
        due(what, ask.of(x, 0), answer);
        for (int layer = 0; layer < Math.min(2, x.look(1)); layer++) {
            behind.append(Edge.drawings(x, layer));
        }
        Edge.alike(what, behind.toString(), ahead.toString());
        due("acts behind " + what, x.look(5), 0);
        due("undo behind " + what, x.undo(), -3);
    }

    // ---- promise 33

    private static void exposeBounds() {
        Edge.refused("expose(n, 0, 0, 2)", Edge.NO_SCENE, (x, n) -> x.expose(n, 0, 0, 2), -2, Edge.MIN, -1, 0, 1, Edge.MAX);
        Edge.range("expose(n, 0, 0, 2)", Edge.LEAST, (x, n) -> x.expose(n, 0, 0, 2), -2, 0, 1, 0, 1);
        Edge.range("expose(0, n, 0, 2)", Edge.LEAST, (x, n) -> x.expose(0, n, 0, 2), -2, 0, 1, 0, 1);
        Edge.range("expose(0, 0, n, 2)", Edge.LEAST, (x, n) -> x.expose(0, 0, n, 2), -2, 0, 1, 0, 1);
        Edge.range("expose(0, 0, 0, n)", Edge.LEAST, (x, n) -> x.expose(0, 0, 0, n), -2, 0, 1, 99, 1);
        Edge.range("expose(n, 0, 95, 50)", Edge.FULL, (x, n) -> x.expose(n, 0, 95, 50), -2, 0, 95, 5, 95);
        Edge.range("expose(0, n, 95, 0)", Edge.FULL, (x, n) -> x.expose(0, n, 95, 0), -2, 0, 96, 95, 1);
        Edge.range("expose(0, n, 47, 0)", Edge.FULL, (x, n) -> x.expose(0, n, 47, 0), -2, 0, 48, 47, 1);
        Edge.range("expose(0, 0, n, 0)", Edge.FULL, (x, n) -> x.expose(0, 0, n, 0), -2, 0, 1, 95, 96);
        Edge.range("expose(0, 48, n, 0)", Edge.FULL, (x, n) -> x.expose(0, 48, n, 0), -2, 48, 1, 95, 48);
        Edge.range("expose(5, 95, n, 0)", Edge.FULL, (x, n) -> x.expose(5, 95, n, 0), -2, 95, 1, 95, 1);
        Edge.range("expose(0, 0, 95, n)", Edge.FULL, (x, n) -> x.expose(0, 0, 95, n), -2, 0, 96, 99, 96);
        Edge.refused("expose(0, n, n, 0)", Edge.FULL, (x, n) -> x.expose(0, n, n, 0), -2, -1, 96, 97, Edge.MAX, Edge.MIN);
        Edge.refused("expose(0, n, n - 1, 0)", Edge.FULL, (x, n) -> x.expose(0, n, n - 1, 0), -2, 0, 1, 50, 95, 96);
    }

    private static void exposeCounts() {
        act(SIX, "expose(0, 1, 3, 9)", (x, n) -> x.expose(0, 1, 3, 9), 0, 3, 1, 9, 9, 9, 5, 6);
        act(SIX, "expose(0, 0, 5, 0)", (x, n) -> x.expose(0, 0, 5, 0), 0, 6, 0, 0, 0, 0, 0, 0);
        act(SIX, "expose(0, 0, 0, 99)", (x, n) -> x.expose(0, 0, 0, 99), 0, 1, 99, 2, 3, 4, 5, 6);
        act(SIX, "expose(0, 5, 5, 99)", (x, n) -> x.expose(0, 5, 5, 99), 0, 1, 1, 2, 3, 4, 5, 99);
        // Only where it had another one.
        act(SIX, "expose(0, 1, 3, 3)", (x, n) -> x.expose(0, 1, 3, 3), 0, 2, 1, 3, 3, 3, 5, 6);
        act(SIX, "expose(0, 0, 5, 6)", (x, n) -> x.expose(0, 0, 5, 6), 0, 5, 6, 6, 6, 6, 6, 6);
        act(GAPS, "expose(0, 0, 5, 0)", (x, n) -> x.expose(0, 0, 5, 0), 0, 3, 0, 0, 0, 0, 0, 0);
        act(GAPS, "expose(0, 1, 3, 4)", (x, n) -> x.expose(0, 1, 3, 4), 0, 2, 1, 4, 4, 4, 0, 6);
    }

    private static void exposeIdle() {
        noAct(SIX, "expose(0, 2, 2, 3)", (x, n) -> x.expose(0, 2, 2, 3), -3);
        noAct(GAPS, "expose(0, 1, 2, 0)", (x, n) -> x.expose(0, 1, 2, 0), -3);
        noAct(Edge.LEAST, "expose(0, 0, 0, 1)", (x, n) -> x.expose(0, 0, 0, 1), -3);
        noAct(BLANK, "expose(0, 0, 0, 0)", (x, n) -> x.expose(0, 0, 0, 0), -3);
        noAct(Edge.FULL, "expose(3, 0, 95, 0)", (x, n) -> x.expose(3, 0, 95, 0), -3);
        noAct(Edge.FULL, "expose(5, 95, 95, 99)", (x, n) -> x.expose(5, 95, 95, 99), -3);
        noAct(Edge.FULL, "expose(1, 72, 95, 4)", (x, n) -> x.expose(1, 72, 95, 4), -3);
        noAct(SIX, "expose(0, 3, 2, 9)", (x, n) -> x.expose(0, 3, 2, 9), -2);
        noAct(SIX, "expose(0, 0, 6, 9)", (x, n) -> x.expose(0, 0, 6, 9), -2);
        noAct(SIX, "expose(0, 0, 5, 100)", (x, n) -> x.expose(0, 0, 5, 100), -2);
        noAct(SIX, "expose(0, 0, 5, -1)", (x, n) -> x.expose(0, 0, 5, -1), -2);
        due("expose(1, 71, 95, 4)", Due.sheet(Edge.FULL).expose(1, 71, 95, 4), 1);
    }

    // ---- promise 34

    private static void pushBounds() {
        Edge.refused("push(n, 0, 1)", Edge.NO_SCENE, (x, n) -> x.push(n, 0, 1), -2, Edge.MIN, -1, 0, 1, Edge.MAX);
        Edge.range("push(n, 0, 1)", Edge.LEAST, (x, n) -> x.push(n, 0, 1), -2, 0, 1, 0, 1);
        Edge.range("push(0, n, 1)", Edge.LEAST, (x, n) -> x.push(0, n, 1), -2, 0, 1, 0, 1);
        Edge.range("push(0, 0, n)", Edge.LEAST, (x, n) -> x.push(0, 0, n), -2, 1, 1, 96, 1);
        Edge.range("push(0, 0, n)", BLANK, (x, n) -> x.push(0, 0, n), -2, 1, 0, 96, 0);
        Edge.range("push(n, 0, 2)", Edge.FULL, (x, n) -> x.push(n, 0, 2), -2, 0, 2, 5, 2);
        Edge.range("push(0, n, 96)", Edge.FULL, (x, n) -> x.push(0, n, 96), -2, 0, 96, 95, 1);
        Edge.range("push(0, 0, n)", Edge.FULL, (x, n) -> x.push(0, 0, n), -2, 1, 1, 96, 96);
        Edge.range("push(0, 95, n)", Edge.FULL, (x, n) -> x.push(0, 95, n), -2, 1, 1, 96, 1);
        Edge.range("push(3, 0, n)", Edge.FULL, (x, n) -> x.push(3, 0, n), -2, 1, 0, 96, 0);
    }

    private static void pushCounts() {
        act(SIX, "push(0, 0, 1)", (x, n) -> x.push(0, 0, 1), 0, 1, 1, 1, 2, 3, 4, 5);
        act(SIX, "push(0, 0, 4)", (x, n) -> x.push(0, 0, 4), 0, 4, 1, 1, 1, 1, 1, 2);
        act(SIX, "push(0, 0, 5)", (x, n) -> x.push(0, 0, 5), 0, 5, 1, 1, 1, 1, 1, 1);
        act(SIX, "push(0, 0, 6)", (x, n) -> x.push(0, 0, 6), 0, 6, 1, 1, 1, 1, 1, 1);
        act(SIX, "push(0, 0, 96)", (x, n) -> x.push(0, 0, 96), 0, 6, 1, 1, 1, 1, 1, 1);
        act(SIX, "push(0, 3, 1)", (x, n) -> x.push(0, 3, 1), 0, 1, 1, 2, 3, 4, 4, 5);
        act(SIX, "push(0, 3, 2)", (x, n) -> x.push(0, 3, 2), 0, 2, 1, 2, 3, 4, 4, 4);
        act(SIX, "push(0, 3, 3)", (x, n) -> x.push(0, 3, 3), 0, 3, 1, 2, 3, 4, 4, 4);
        act(SIX, "push(0, 3, 96)", (x, n) -> x.push(0, 3, 96), 0, 3, 1, 2, 3, 4, 4, 4);
        act(SIX, "push(0, 4, 1)", (x, n) -> x.push(0, 4, 1), 0, 1, 1, 2, 3, 4, 5, 5);
        // What is lost counts where it was not blank; what comes ahead may be blank itself.
        act(GAPS, "push(0, 0, 1)", (x, n) -> x.push(0, 0, 1), 0, 1, 1, 1, 0, 0, 4, 0);
        act(GAPS, "push(0, 0, 2)", (x, n) -> x.push(0, 0, 2), 0, 1, 1, 1, 1, 0, 0, 4);
        act(GAPS, "push(0, 0, 3)", (x, n) -> x.push(0, 0, 3), 0, 2, 1, 1, 1, 1, 0, 0);
        act(GAPS, "push(0, 0, 6)", (x, n) -> x.push(0, 0, 6), 0, 3, 1, 1, 1, 1, 1, 1);
        act(GAPS, "push(0, 1, 1)", (x, n) -> x.push(0, 1, 1), 0, 1, 1, 0, 0, 0, 4, 0);
        act(GAPS, "push(0, 1, 3)", (x, n) -> x.push(0, 1, 3), 0, 2, 1, 0, 0, 0, 0, 0);
        act(GAPS, "push(0, 1, 96)", (x, n) -> x.push(0, 1, 96), 0, 2, 1, 0, 0, 0, 0, 0);
        act("frames 4;layer a on 1=1 2 blank;", "push(0, 0, 1)", (x, n) -> x.push(0, 0, 1), 0, 0, 1, 1, 2, 0);
        CelSheet x = Due.sheet(Edge.FULL);
        due("push(5, 0, 1)", x.push(5, 0, 1), 1);
        due("the last but one went to the last", x.at(5, 95), 98);
        due("the first stays", x.at(5, 0), 4);
        due("the second is the first", x.at(5, 1), 4);
        due("other layers stay", x.at(4, 95), 2);
    }

    // ---- promise 35

    private static void pullBounds() {
        Edge.refused("pull(n, 0, 1)", Edge.NO_SCENE, (x, n) -> x.pull(n, 0, 1), -2, Edge.MIN, -1, 0, 1, Edge.MAX);
        Edge.range("pull(n, 0, 1)", Edge.LEAST, (x, n) -> x.pull(n, 0, 1), -2, 0, 1, 0, 1);
        Edge.range("pull(0, n, 1)", Edge.LEAST, (x, n) -> x.pull(0, n, 1), -2, 0, 1, 0, 1);
        Edge.range("pull(0, 0, n)", Edge.LEAST, (x, n) -> x.pull(0, 0, n), -2, 1, 1, 1, 1);
        Edge.range("pull(0, 0, n)", BLANK, (x, n) -> x.pull(0, 0, n), -2, 1, 0, 1, 0);
        Edge.range("pull(n, 0, 96)", Edge.FULL, (x, n) -> x.pull(n, 0, 96), -2, 0, 96, 5, 96);
        Edge.range("pull(0, n, 1)", Edge.FULL, (x, n) -> x.pull(0, n, 1), -2, 0, 95, 95, 1);
        Edge.range("pull(0, 0, n)", Edge.FULL, (x, n) -> x.pull(0, 0, n), -2, 1, 95, 96, 96);
        Edge.range("pull(0, 1, n)", Edge.FULL, (x, n) -> x.pull(0, 1, n), -2, 1, 94, 95, 95);
        Edge.range("pull(0, 48, n)", Edge.FULL, (x, n) -> x.pull(0, 48, n), -2, 1, 47, 48, 48);
        Edge.range("pull(0, 95, n)", Edge.FULL, (x, n) -> x.pull(0, 95, n), -2, 1, 1, 1, 1);
        Edge.range("pull(3, 0, n)", Edge.FULL, (x, n) -> x.pull(3, 0, n), -2, 1, 0, 96, 0);
        for (int frame = 0; frame < 6; frame++) {
            int f = frame;
            Edge.refused("pull(0, " + f + ", n)", SIX, (x, n) -> x.pull(0, f, n), -2, -1, 0, 7 - f, 8, 96, 97);
            due("pull of all from " + f, Due.sheet(SIX).pull(0, f, 6 - f), 6 - f);
        }
    }

    private static void pullCounts() {
        act(SIX, "pull(0, 0, 1)", (x, n) -> x.pull(0, 0, 1), 0, 5, 2, 3, 4, 5, 6, 6);
        act(SIX, "pull(0, 0, 5)", (x, n) -> x.pull(0, 0, 5), 0, 5, 6, 6, 6, 6, 6, 6);
        act(SIX, "pull(0, 0, 6)", (x, n) -> x.pull(0, 0, 6), 0, 6, 0, 0, 0, 0, 0, 0);
        act(SIX, "pull(0, 1, 4)", (x, n) -> x.pull(0, 1, 4), 0, 4, 1, 6, 6, 6, 6, 6);
        act(SIX, "pull(0, 1, 5)", (x, n) -> x.pull(0, 1, 5), 0, 5, 1, 1, 1, 1, 1, 1);
        act(SIX, "pull(0, 3, 1)", (x, n) -> x.pull(0, 3, 1), 0, 2, 1, 2, 3, 5, 6, 6);
        act(SIX, "pull(0, 3, 2)", (x, n) -> x.pull(0, 3, 2), 0, 2, 1, 2, 3, 6, 6, 6);
        act(SIX, "pull(0, 3, 3)", (x, n) -> x.pull(0, 3, 3), 0, 3, 1, 2, 3, 3, 3, 3);
        act(SIX, "pull(0, 5, 1)", (x, n) -> x.pull(0, 5, 1), 0, 1, 1, 2, 3, 4, 5, 5);
        act(GAPS, "pull(0, 0, 1)", (x, n) -> x.pull(0, 0, 1), 0, 4, 0, 0, 4, 0, 6, 6);
        act(GAPS, "pull(0, 1, 2)", (x, n) -> x.pull(0, 1, 2), 0, 3, 1, 4, 0, 6, 6, 6);
        act(GAPS, "pull(0, 5, 1)", (x, n) -> x.pull(0, 5, 1), 0, 1, 1, 0, 0, 4, 0, 0);
        act(GAPS, "pull(0, 1, 5)", (x, n) -> x.pull(0, 1, 5), 0, 5, 1, 1, 1, 1, 1, 1);
        act(Edge.LEAST, "pull(0, 0, 1)", (x, n) -> x.pull(0, 0, 1), 0, 1, 0);
        CelSheet x = Due.sheet(Edge.FULL);
        due("pull(5, 94, 1)", x.pull(5, 94, 1), 1);
        due("the last came nearer", x.at(5, 94), 99);
        due("the last then", x.at(5, 95), 99);
        due("other layers stay", x.at(0, 94), 95);
    }

    // ---- promise 36

    private static void turnBounds() {
        Edge.refused("turn(n, 1)", Edge.NO_SCENE, (x, n) -> x.turn(n, 1), -2, Edge.MIN, -1, 0, 1, Edge.MAX);
        Edge.refused("turn(0, n)", Edge.LEAST, (x, n) -> x.turn(0, n), -2, Edge.MIN, -1, 0, 1, 2, Edge.MAX);
        Edge.range("turn(0, n)", "frames 2;layer a on 1=1 2;", (x, n) -> x.turn(0, n), -2, 1, 2, 1, 2);
        Edge.range("turn(0, n)", SIX, (x, n) -> x.turn(0, n), -2, 1, 6, 5, 6);
        Edge.range("turn(0, n)", Edge.FULL, (x, n) -> x.turn(0, n), -2, 1, 96, 95, 96);
        Edge.range("turn(n, 1)", Edge.FULL, (x, n) -> x.turn(n, 1), -2, 0, 96, 5, 96);
        Edge.range("turn(1, n)", Edge.FULL, (x, n) -> x.turn(1, n), -2, 1, 4, 95, 4);
        Edge.range("turn(3, n)", Edge.FULL, (x, n) -> x.turn(3, n), -2, 1, 0, 95, 0);
    }

    private static void turnCounts() {
        act(SIX, "turn(0, 1)", (x, n) -> x.turn(0, 1), 0, 6, 2, 3, 4, 5, 6, 1);
        act(SIX, "turn(0, 2)", (x, n) -> x.turn(0, 2), 0, 6, 3, 4, 5, 6, 1, 2);
        act(SIX, "turn(0, 5)", (x, n) -> x.turn(0, 5), 0, 6, 6, 1, 2, 3, 4, 5);
        act(GAPS, "turn(0, 1)", (x, n) -> x.turn(0, 1), 0, 5, 0, 0, 4, 0, 6, 1);
        act(GAPS, "turn(0, 3)", (x, n) -> x.turn(0, 3), 0, 4, 4, 0, 6, 1, 0, 0);
        act("frames 2;layer a on 1=1 2;", "turn(0, 1)", (x, n) -> x.turn(0, 1), 0, 2, 2, 1);
        act("frames 4;layer a on 1=1 2 loop;", "turn(0, 1)", (x, n) -> x.turn(0, 1), 0, 4, 2, 1, 2, 1);
        CelSheet x = Due.sheet(Edge.FULL);
        x.turn(5, 95);
        due("the last is the first", x.at(5, 0), 99);
        due("the first is the second", x.at(5, 1), 4);
        due("the last but one is the last", x.at(5, 95), 98);
        due("other layers stay", x.at(4, 0), 1);
        x.turn(5, 1);
        due("as it was", x.at(5, 0), 4);
    }

    // ---- promise 37

    private static void raiseBounds() {
        Edge.refused("raise", Edge.NO_SCENE, CelSheet::raise, -2, Edge.MIN, -1, 0, 1, Edge.MAX);
        Edge.range("raise", Edge.LEAST, CelSheet::raise, -2, 0, -3, 0, -3);
        Edge.range("raise", Edge.FULL, CelSheet::raise, -2, 0, 1, 5, -3);
        due("raise(4)", Due.sheet(Edge.FULL).raise(4), 5);
        noAct(Edge.LEAST, "raise(0) of one", (x, n) -> x.raise(0), -3);
        noAct(Edge.FULL, "raise(5) of six", (x, n) -> x.raise(5), -3);
        noAct(Edge.FULL, "raise(6) of six", (x, n) -> x.raise(6), -2);
    }

    private static void stack(CelSheet x, String what, int... places) {
        for (int layer = 0; layer < places.length; layer++) {
            due("place of " + layer + " " + what, x.layer(layer, 1), places[layer]);
        }
    }

    private static void raiseStack() {
        CelSheet x = Due.sheet(Edge.FULL);
        stack(x, "at first", 0, 1, 2, 3, 4, 5);
        due("raise(2)", x.raise(2), 3);
        stack(x, "behind raise(2)", 0, 1, 3, 2, 4, 5);
        due("raise(2) again", x.raise(2), 4);
        stack(x, "behind raise(2) again", 0, 1, 4, 2, 3, 5);
        due("raise(2) to the highest", x.raise(2), 5);
        stack(x, "with 2 the highest", 0, 1, 5, 2, 3, 4);
        due("raise(2) no more", x.raise(2), -3);
        stack(x, "with 2 still the highest", 0, 1, 5, 2, 3, 4);
        due("raise(5), no more the highest", x.raise(5), 5);
        stack(x, "with 5 the highest", 0, 1, 4, 2, 3, 5);
        due("raise(0), the lowest", x.raise(0), 1);
        stack(x, "with 1 the lowest", 1, 0, 4, 2, 3, 5);
        due("acts", x.look(5), 5);
        due("undo", x.undo(), 4);
        stack(x, "behind undo", 0, 1, 4, 2, 3, 5);
        for (int n = 3; n >= 0; n--) {
            due("undo", x.undo(), n);
        }
        stack(x, "at last", 0, 1, 2, 3, 4, 5);
        due("drawings stay", x.at(5, 95), 99);
    }

    // ---- promise 38

    private static void twosBounds() {
        Edge.refused("twos", Edge.NO_SCENE, CelSheet::twos, -2, Edge.MIN, -1, 0, 1, Edge.MAX);
        Edge.range("twos", Edge.LEAST, CelSheet::twos, -2, 0, -3, 0, -3);
        Edge.range("twos", Edge.FULL, CelSheet::twos, -2, 0, 48, 5, 48);
        Edge.row("twos", Edge.FULL, CelSheet::twos, -1, -2, 48, -3, 48, -3, -3, 48, -2);
        noAct(Edge.LEAST, "twos(0) of one frame", (x, n) -> x.twos(0), -3);
        noAct("frames 3;layer a on 1=1 1 2;", "twos(0) of what is on twos", (x, n) -> x.twos(0), -3);
        noAct("frames 6;layer a on 2=1 blank 3;", "twos(0) of what is on twos", (x, n) -> x.twos(0), -3);
        noAct("frames 4;layer a on 1=blank;", "twos(0) of a blank", (x, n) -> x.twos(0), -3);
        noAct(SIX, "twos(1) of none", (x, n) -> x.twos(1), -2);
    }

    private static void twosCounts() {
        act("frames 2;layer a on 1=1 2;", "twos of 2", (x, n) -> x.twos(0), 0, 1, 1, 1);
        act("frames 3;layer a on 1=1 2 3;", "twos of 3", (x, n) -> x.twos(0), 0, 1, 1, 1, 3);
        act("frames 4;layer a on 1=1 2 3 4;", "twos of 4", (x, n) -> x.twos(0), 0, 2, 1, 1, 3, 3);
        act("frames 5;layer a on 1=1-5;", "twos of 5", (x, n) -> x.twos(0), 0, 2, 1, 1, 3, 3, 5);
        act(SIX, "twos of 6", (x, n) -> x.twos(0), 0, 3, 1, 1, 3, 3, 5, 5);
        act(GAPS, "twos with gaps", (x, n) -> x.twos(0), 0, 3, 1, 1, 0, 0, 0, 0);
        act("frames 4;layer a on 1=blank x1 2 2 3;", "twos from a blank", (x, n) -> x.twos(0), 0, 2, 0, 0, 2, 2);
        CelSheet x = Due.sheet(Edge.FULL);
        due("twos(5)", x.twos(5), 48);
        due("its last but one", x.at(5, 94), 98);
        due("its last", x.at(5, 95), 98);
        due("twos(5) again", x.twos(5), -3);
        due("acts", x.look(5), 1);
    }

    // ---- promise 39

    private static void undoBounds() {
        due("undo without a scene", new CelSheet().undo(), -3);
        due("undo in the least", Due.sheet(Edge.LEAST).undo(), -3);
        due("undo in a full one", Due.sheet(Edge.FULL).undo(), -3);
        for (int acts : new int[] {1, 2, 19, 20, 21, 22, 39, 40, 41, 60, 61}) {
            CelSheet x = Due.sheet("frames 2;layer a on 1=1;");
            for (int n = 1; n <= acts; n++) {
                x.expose(0, 1, 1, 1 + n);
            }
            int left = Math.min(20, acts);
            due("acts that can be undone of " + acts, x.look(5), left);
            for (int n = left - 1; n >= 0; n--) {
                due("undo of " + acts, x.undo(), n);
                due("look(5) then", x.look(5), n);
                due("at(0, 1) then", x.at(0, 1), 1 + acts - (left - n));
            }
            due("undo no more of " + acts, x.undo(), -3);
            due("at(0, 1) still", x.at(0, 1), 1 + acts - left);
        }
    }

    /** Twenty acts of each kind, on a full scene, and all of them undone. */
    private static void undoTwenty() {
        CelSheet x = Due.sheet(Edge.FULL);
        String[] rows = new String[21];
        int[] places = new int[21];
        for (int n = 0; n < 20; n++) {
            rows[n] = row(x);
            places[n] = x.layer(0, 1);
            switch (n % 7) {
                case 0: due("expose", x.expose(0, 1, 3, 60 + n), 3); break;
                case 1: due("push", x.push(0, 0, 1), 1); break;
                case 2: due("pull", x.pull(0, 2, 1) > 0 ? 1 : 0, 1); break;
                case 3: due("turn", x.turn(0, 5) > 0 ? 1 : 0, 1); break;
                case 4: due("raise", x.raise(0), places[n] + 1); break;
                case 5: due("expose", x.expose(0, 0, 0, 97), 1); break;
                default: due("twos", x.twos(0) > 0 ? 1 : 0, 1);
            }
            due("acts", x.look(5), n + 1);
        }
        for (int n = 19; n >= 0; n--) {
            due("undo to " + n, x.undo(), n);
            Edge.alike("undone to " + n, row(x), rows[n]);
            due("place undone to " + n, x.layer(0, 1), places[n]);
        }
        due("undo no more", x.undo(), -3);
        due("place at last", x.layer(0, 1), 0);
    }

    /** Some frames of a layer: few enough for the calls that an object has. */
    private static String row(CelSheet x) {
        StringBuilder b = new StringBuilder();
        for (int f : new int[] {0, 1, 2, 3, 4, 50, 94, 95}) {
            b.append(x.at(0, f)).append(' ');
        }
        return b.toString();
    }

    private static void undoEach() {
        // An act on one layer, undone, leaves what acts ahead of it did to the others.
        CelSheet x = Due.sheet("frames 3;layer a on 1=1-3;layer b on 1=4-6;layer c on 1=7-9;");
        x.turn(0, 1);
        x.raise(1);
        x.push(2, 0, 1);
        x.twos(1);
        due("undo of twos", x.undo(), 3);
        Due.row(x, 0, 2, 3, 1);
        Due.row(x, 1, 4, 5, 6);
        Due.row(x, 2, 7, 7, 8);
        stack(x, "then", 0, 2, 1);
        due("undo of push", x.undo(), 2);
        Due.row(x, 2, 7, 8, 9);
        stack(x, "then", 0, 2, 1);
        due("undo of raise", x.undo(), 1);
        stack(x, "then", 0, 1, 2);
        Due.row(x, 0, 2, 3, 1);
        due("undo of turn", x.undo(), 0);
        Due.row(x, 0, 1, 2, 3);
    }

    private static void undoAndRefused() {
        // Calls that are refused are no acts, also when twenty can be undone.
        CelSheet x = Due.sheet("frames 2;layer a on 1=1;layer b on 1=1;");
        for (int n = 1; n <= 20; n++) {
            x.expose(0, 0, 0, 1 + n);
        }
        x.expose(0, 0, 0, 21);
        x.expose(0, 0, 2, 5);
        x.push(0, 0, 97);
        x.pull(0, 0, 3);
        x.turn(0, 0);
        x.raise(1);
        x.raise(2);
        x.twos(1);
        x.twos(2);
        x.keep(2);
        x.back(0);
        x.back(2);
        x.turned(0, 1);
        x.doubled(0, 0);
        x.without(0);
        due("acts", x.look(5), 20);
        for (int n = 19; n >= 0; n--) {
            due("undo", x.undo(), n);
            due("at(0, 0)", x.at(0, 0), 1 + n);
        }
        due("undo no more", x.undo(), -3);
    }

    private static void undoBehindUndo() {
        // What was undone does not come again; a new act takes its place.
        CelSheet x = Due.sheet("frames 1;layer a on 1=1;");
        for (int n = 2; n <= 30; n++) {
            x.expose(0, 0, 0, n);
        }
        for (int n = 0; n < 5; n++) {
            x.undo();
        }
        due("acts behind five undone", x.look(5), 15);
        due("drawing then", x.at(0, 0), 25);
        for (int n = 51; n <= 56; n++) {
            x.expose(0, 0, 0, n);
        }
        due("acts behind six more", x.look(5), 20);
        for (int n = 19; n >= 0; n--) {
            due("undo", x.undo(), n);
            due("drawing", x.at(0, 0), n >= 15 ? 36 + n : 11 + n);
        }
        due("undo no more", x.undo(), -3);
        due("drawing at last", x.at(0, 0), 11);
    }

    // ---- promise 40

    private static void keepBounds() {
        Edge.range("keep", Edge.NO_SCENE, CelSheet::keep, -2, 0, -3, 1, -3);
        Edge.range("keep", Edge.LEAST, CelSheet::keep, -2, 0, 1, 1, 1);
        Edge.range("keep", Edge.FULL, CelSheet::keep, -2, 0, 96, 1, 96);
        Edge.range("keep", "frames 95;layer a on 1=1;", CelSheet::keep, -2, 0, 95, 1, 95);
        CelSheet x = new CelSheet();
        Due.scene(x, "frames 5;");
        due("keep behind a fault", x.keep(0), -3);
        due("back behind it", x.back(0), -3);
    }

    private static void keptApart() {
        // Each is kept for itself; one that is kept again is the later one.
        CelSheet x = Due.sheet("frames 1;layer a on 1=1;layer b on 1=1;");
        due("keep(0)", x.keep(0), 1);
        due("nothing in 1", x.back(1), -3);
        due("apart(1)", x.apart(1), -3);
        x.expose(0, 0, 0, 5);
        due("apart(0)", x.apart(0), 1);
        due("keep(1)", x.keep(1), 1);
        due("apart(0)", x.apart(0), 1);
        due("apart(1)", x.apart(1), 0);
        x.expose(0, 0, 0, 6);
        x.raise(0);
        due("keep(0) again", x.keep(0), 1);
        due("back(1)", x.back(1), 1);
        due("drawing of 1", x.at(0, 0), 5);
        due("place of 1", x.layer(0, 1), 0);
        due("back(0)", x.back(0), 1);
        due("drawing of 0", x.at(0, 0), 6);
        due("place of 0", x.layer(0, 1), 1);
        due("apart(1)", x.apart(1), 1);
        // It is kept, not used up, and acts don't reach it.
        x.expose(0, 0, 0, 9);
        due("back(0) once more", x.back(0), 1);
        due("drawing of 0", x.at(0, 0), 6);
        x.raise(1);
        x.expose(1, 0, 0, 9);
        due("back(0) a third time", x.back(0), 1);
        due("place of 0", x.layer(0, 1), 1);
        due("drawing of the other layer", x.at(1, 0), 1);
    }

    private static void keepAndUndo() {
        for (int acts : new int[] {0, 1, 20}) {
            CelSheet x = Due.sheet("frames 1;layer a on 1=50;");
            for (int n = 1; n <= acts; n++) {
                x.expose(0, 0, 0, n);
            }
            due("keep(0)", x.keep(0), 1);
            due("keep(1)", x.keep(1), 1);
            due("acts stay", x.look(5), acts);
            for (int n = acts - 1; n >= 0; n--) {
                due("undo", x.undo(), n);
            }
            due("undo no more", x.undo(), -3);
            due("what is kept stays", x.apart(0), acts == 0 ? 0 : 1);
            due("back(1)", x.back(1), 1);
            due("drawing", x.at(0, 0), acts == 0 ? 50 : acts);
        }
    }

    // ---- promise 41

    private static void backBounds() {
        Edge.range("back", Edge.NO_SCENE, CelSheet::back, -2, 0, -3, 1, -3);
        Edge.range("back", Edge.LEAST, CelSheet::back, -2, 0, -3, 1, -3);
        for (String scene : new String[] {Edge.LEAST, Edge.FULL}) {
            int frames = scene == Edge.FULL ? 96 : 1;
            for (int one = 0; one <= 1; one++) {
                int k = one;
                Edge.refused("back with " + k + " kept", scene, (x, n) -> {
                    x.keep(k);
                    return x.back(n);
                }, -2, Edge.MIN, -1, 2, 3, Edge.MAX);
                Edge.row("back with " + k + " kept", scene, (x, n) -> {
                    x.keep(k);
                    return x.back(n);
                }, 0, k == 0 ? frames : -3, k == 1 ? frames : -3);
                Edge.row("apart with " + k + " kept", scene, (x, n) -> {
                    x.keep(k);
                    return x.apart(n);
                }, -1, -2, k == 0 ? 0 : -3, k == 1 ? 0 : -3, -2);
            }
        }
    }

    private static void backAndActs() {
        CelSheet x = Due.sheet(Edge.FULL);
        x.turn(5, 95);
        x.raise(0);
        x.keep(1);
        for (int n = 0; n < 20; n++) {
            x.expose(n % 6, 0, 95, 1 + n);
        }
        due("acts", x.look(5), 20);
        due("back that is refused", x.back(0), -3);
        due("acts still", x.look(5), 20);
        due("back that is refused", x.back(2), -2);
        due("acts still", x.look(5), 20);
        due("back(1)", x.back(1), 96);
        due("acts behind back", x.look(5), 0);
        due("undo behind back", x.undo(), -3);
        due("first frame", x.at(5, 0), 99);
        due("last frame", x.at(5, 95), 98);
        due("place", x.layer(0, 1), 1);
        due("last of another layer", x.at(0, 95), 96);
        due("apart(1)", x.apart(1), 0);
        // Also when they are as they were kept, nothing can be undone then.
        x.turn(3, 1);
        due("back(1) again", x.back(1), 96);
        due("undo behind it", x.undo(), -3);
        x.expose(0, 0, 0, 0);
        due("undo of an act behind back", x.undo(), 0);
        due("what was told stays", x.told(5, 0), 4);
    }

    // ---- promise 42

    private static void apartCounts() {
        Edge.range("apart", Edge.NO_SCENE, CelSheet::apart, -2, 0, -3, 1, -3);
        Edge.range("apart", Edge.FULL, CelSheet::apart, -2, 0, -3, 1, -3);
        CelSheet x = Due.sheet(Edge.FULL);
        x.keep(0);
        due("apart from the same", x.apart(0), 0);
        x.raise(0);
        due("apart by the stack alone", x.apart(0), 0);
        x.expose(5, 95, 95, 0);
        due("apart by the last frame of the last layer", x.apart(0), 1);
        x.expose(0, 0, 0, 99);
        due("apart by the first frame of the first layer", x.apart(0), 2);
        x.undo();
        due("apart behind undo", x.apart(0), 1);
        for (int layer = 0; layer < 6; layer++) {
            x.expose(layer, 0, 95, layer == 0 ? 99 : layer == 3 ? 1 : 0);
        }
        due("apart by all", x.apart(0), 576);
        x.keep(1);
        due("apart of both", x.apart(0) - x.apart(1), 576);
        x.back(0);
        due("apart behind back", x.apart(0), 0);
        due("apart from the other", x.apart(1), 576);
        Edge.refused("apart", Edge.LEAST, (y, n) -> {
            y.keep(0);
            y.keep(1);
            return y.apart(n);
        }, -2, Edge.MIN, -1, 2, 3, Edge.MAX);
    }

    private static void keptAndScenes() {
        CelSheet x = Due.sheet("frames 2;layer a on 1=1;");
        x.keep(0);
        x.keep(1);
        x.expose(0, 0, 1, 3);
        due("a fault", Due.scene(x, "frames 2;layer a on 1=1"), NONE);
        due("apart(0) behind a fault", x.apart(0), 2);
        due("apart(1) behind a fault", x.apart(1), 2);
        due("undo behind a fault", x.undo(), 0);
        due("a scene", Due.scene(x, "frames 2;layer a on 1=1;"), 2);
        for (int k = 0; k <= 1; k++) {
            due("apart behind a scene", x.apart(k), -3);
            due("back behind a scene", x.back(k), -3);
        }
        due("keep behind a scene", x.keep(1), 2);
        due("back of the other", x.back(0), -3);
    }

    /** Of several answers that hold -2 goes ahead of -3. */
    private static void refusalsInOrder() {
        for (int k : new int[] {Edge.MIN, -1, 2, Edge.MAX}) {
            due("keep(" + k + ") without a scene", new CelSheet().keep(k), -2);
            due("back(" + k + ") with nothing kept", new CelSheet().back(k), -2);
            due("apart(" + k + ") with nothing kept", new CelSheet().apart(k), -2);
            due("back(" + k + ") with nothing kept", Due.sheet(Edge.LEAST).back(k), -2);
            due("apart(" + k + ") with nothing kept", Due.sheet(Edge.LEAST).apart(k), -2);
        }
        // Nothing would change where there is nothing.
        due("expose of no frames", Due.sheet(SIX).expose(0, 1, 0, 2), -2);
        due("expose of what would be as it is", Due.sheet(SIX).expose(1, 0, 0, 1), -2);
        due("raise of no layer", Due.sheet(Edge.LEAST).raise(1), -2);
        due("twos of no layer", Due.sheet(Edge.LEAST).twos(1), -2);
    }
}

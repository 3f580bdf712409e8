/** Promises 19 to 32 at their edges: frames as they are composed, and what would be. */
public final class FrameEdgesTest {
    private static final int NONE = Edge.NONE;
    private static final String BLANK = "frames 1;layer a on 1=blank;";
    /** Two layers of two drawings, each with a place of its own: no two of their four pictures are alike. */
    private static final String PAIR = ";cel a 1 at 0 0 size 1 1 ink 1;cel a 2 at 0 0 size 1 1 ink 2;"
            + "cel b 1 at 1 0 size 1 1 ink 1;cel b 2 at 1 0 size 1 1 ink 2;";

    private FrameEdgesTest() {
    }

    private static void due(String what, int got, int want) {
        Due.due(what, got, want);
    }

    public static void main(String[] args) {
        placesOnPaper();
        boxesOnPaper();
        movedOut();
        movedFar();
        stacked();
        toldLast();
        hiddenOnes();
        ink();
        seen();
        same();
        like();
        take();
        takesOfMany();
        takesComeAgain();
        takesAreWhole();
        takesOfOneRow();
        still();
        changes();
        savedOfAll();
        savedOne();
        turned();
        turnedPastTheEnd();
        best();
        bestOfEqual();
        bestOfMany();
        without();
        doubled();
        doubledOdd();
        nothingIsDone();
        behindActs();
        takesBehindActs();
        Due.end("FrameEdgesTest");
    }

    // ---- promises 19 and 20

    private static void placesOnPaper() {
        String[] scenes = {Edge.NO_SCENE, Edge.LEAST, Edge.FULL};
        int[] frames = {0, 1, 96};
        for (int i = 0; i < scenes.length; i++) {
            int[] wrong = i == 0 ? new int[] {Edge.MIN, -1, 0, 1, 95, Edge.MAX}
                    : new int[] {Edge.MIN, -1, frames[i], frames[i] + 1, 97, Edge.MAX};
            Edge.refused("cell(n, 0, 0)", scenes[i], (x, n) -> x.cell(n, 0, 0), NONE, wrong);
            Edge.refused("top(n, 0, 0)", scenes[i], (x, n) -> x.top(n, 0, 0), NONE, wrong);
            Edge.refused("cell(0, n, 0)", scenes[i], (x, n) -> x.cell(0, n, 0), NONE, Edge.MIN, -1, 12, 13, Edge.MAX);
            Edge.refused("top(0, n, 0)", scenes[i], (x, n) -> x.top(0, n, 0), NONE, Edge.MIN, -1, 12, 13, Edge.MAX);
            Edge.refused("cell(0, 0, n)", scenes[i], (x, n) -> x.cell(0, 0, n), NONE, Edge.MIN, -1, 8, 9, 11, Edge.MAX);
            Edge.refused("top(0, 0, n)", scenes[i], (x, n) -> x.top(0, 0, n), NONE, Edge.MIN, -1, 8, 9, 11, Edge.MAX);
        }
        due("cell of the least", Due.sheet(Edge.LEAST).cell(0, 11, 7), 0);
        due("top of the least", Due.sheet(Edge.LEAST).top(0, 11, 7), NONE);
        // Where there is ink up to the edges, the places beyond have none, not paper.
        String all = Edge.LEAST + "cel a 1 at 0 0 size 12 8 ink 4;";
        Edge.range("cell(0, n, 7)", all, (x, n) -> x.cell(0, n, 7), NONE, 0, 4, 11, 4);
        Edge.range("cell(0, 11, n)", all, (x, n) -> x.cell(0, 11, n), NONE, 0, 4, 7, 4);
        Edge.range("top(0, n, 7)", all, (x, n) -> x.top(0, n, 7), NONE, 0, 0, 11, 0);
        Edge.range("top(0, 11, n)", all, (x, n) -> x.top(0, 11, n), NONE, 0, 0, 7, 0);
        Edge.row("cell(n, 0, 0)", Edge.FULL, (x, n) -> x.cell(n, 0, 0), -1, NONE, 1, 0, 0);
        Edge.row("cell(n, 11, 7)", Edge.FULL, (x, n) -> x.cell(n, 11, 7), 93, 0, 0, 9, NONE);
        Edge.row("top(n, 0, 0)", Edge.FULL, (x, n) -> x.top(n, 0, 0), -1, NONE, 0, NONE, NONE);
        Edge.row("top(n, 11, 7)", Edge.FULL, (x, n) -> x.top(n, 11, 7), 93, NONE, NONE, 5, NONE);
    }

    /** The only box covers these places and no others. */
    private static void covered(CelSheet x, int frame, int left, int right, int top, int bottom, String what) {
        for (int y = 0; y < 8; y++) {
            for (int c = 0; c < 12; c++) {
                boolean in = c >= left && c <= right && y >= top && y <= bottom;
                due(what + ": cell(" + frame + ", " + c + ", " + y + ")", x.cell(frame, c, y), in ? 5 : 0);
            }
        }
    }

    private static String one(String box) {
        return Edge.LEAST + "cel a 1 at " + box + " ink 5;";
    }

    private static void boxesOnPaper() {
        covered(Due.sheet(one("0 0 size 1 1")), 0, 0, 0, 0, 0, "the least box");
        covered(Due.sheet(one("11 7 size 1 1")), 0, 11, 11, 7, 7, "in the last place");
        covered(Due.sheet(one("0 0 size 12 8")), 0, 0, 11, 0, 7, "the greatest box");
        covered(Due.sheet(one("11 7 size 12 8")), 0, 11, 11, 7, 7, "the greatest in the last place");
        covered(Due.sheet(one("1 1 size 10 6")), 0, 1, 10, 1, 6, "one place from each edge");
        covered(Due.sheet(one("0 7 size 12 1")), 0, 0, 11, 7, 7, "the lowest row");
        covered(Due.sheet(one("11 0 size 1 8")), 0, 11, 11, 0, 7, "the last column");
        covered(Due.sheet(one("3 2 size 2 5")), 0, 3, 4, 2, 6, "higher than wide");
        covered(Due.sheet(one("3 2 size 5 2")), 0, 3, 7, 2, 3, "wider than high");
        covered(Due.sheet(one("6 4 size 12 8")), 0, 6, 11, 4, 7, "further than the paper");
    }

    private static CelSheet moved(String box, String slide) {
        return Due.sheet("frames 1;layer a on 1=1;cel a 1 at " + box + " ink 5;slide a from 0 to 0 " + slide + ";");
    }

    private static void movedOut() {
        covered(moved("10 0 size 1 1", "right 1 down 0"), 0, 11, 11, 0, 0, "to the last column");
        covered(moved("11 0 size 1 1", "right 1 down 0"), 0, 1, 0, 0, 0, "out at the right");
        covered(moved("11 0 size 12 1", "right 1 down 0"), 0, 1, 0, 0, 0, "wide and out at the right");
        covered(moved("1 0 size 1 1", "left 1 down 0"), 0, 0, 0, 0, 0, "to the first column");
        covered(moved("0 0 size 1 1", "left 1 down 0"), 0, 1, 0, 0, 0, "out at the left");
        covered(moved("0 0 size 2 1", "left 1 down 0"), 0, 0, 0, 0, 0, "half out at the left");
        covered(moved("0 0 size 10 1", "left 9 down 0"), 0, 0, 0, 0, 0, "nearly out at the left");
        covered(moved("0 0 size 9 1", "left 9 down 0"), 0, 1, 0, 0, 0, "just out at the left");
        covered(moved("0 6 size 1 1", "right 0 down 1"), 0, 0, 0, 7, 7, "to the lowest row");
        covered(moved("0 7 size 1 1", "right 0 down 1"), 0, 1, 0, 0, 0, "out below");
        covered(moved("0 7 size 1 8", "right 0 down 1"), 0, 1, 0, 0, 0, "high and out below");
        covered(moved("0 1 size 1 1", "right 0 up 1"), 0, 0, 0, 0, 0, "to the highest row");
        covered(moved("0 0 size 1 1", "right 0 up 1"), 0, 1, 0, 0, 0, "out above");
        covered(moved("0 0 size 1 2", "right 0 up 1"), 0, 0, 0, 0, 0, "half out above");
        covered(moved("0 2 size 1 8", "right 0 up 9"), 0, 0, 0, 0, 0, "nearly out above");
        covered(moved("0 1 size 1 8", "right 0 up 9"), 0, 1, 0, 0, 0, "just out above");
        // What stands out of the paper where it is told comes in.
        covered(moved("11 7 size 12 8", "left 9 up 7"), 0, 2, 11, 0, 7, "in from the corner");
        covered(moved("11 7 size 3 3", "left 2 up 2"), 0, 9, 11, 5, 7, "in by two");
        covered(moved("11 7 size 3 3", "left 3 up 3"), 0, 8, 10, 4, 6, "in by three");
        covered(moved("2 1 size 3 3", "right 9 down 6"), 0, 11, 11, 7, 7, "out at the corner but for one place");
        // Out and in again, from frame to frame; the first frame of a slide is moved, too.
        CelSheet x = Due.sheet("frames 5;layer a on 1=1;cel a 1 at 11 3 size 1 1 ink 5;"
                + "slide a from 1 to 2 right 1 down 0;slide a from 3 to 4 left 2 up 0;");
        covered(x, 0, 11, 11, 3, 3, "ahead of it");
        covered(x, 1, 1, 0, 3, 3, "moved out");
        covered(x, 2, 1, 0, 3, 3, "further out");
        covered(x, 3, 11, 11, 3, 3, "in again");
        covered(x, 4, 9, 9, 3, 3, "further in");
    }

    private static void movedFar() {
        for (String way : new String[] {"left9up9", "right9down9", "left9down0", "right0down9"}) {
            CelSheet x = Due.sheet("frames96;layer a on1=1;cel a1at0 0size12 8ink5;"
                    + Edge.many(12, "slide a from0to95" + way + ";"));
            for (int f : new int[] {0, 1, 2, 3, 4, 5, 15, 31, 47, 94, 95}) {
                due(way + " in frame " + f, x.ink(f, 0), 96);
            }
        }
    }

    private static void stacked() {
        StringBuilder b = new StringBuilder("frames 1;");
        for (int i = 0; i < 6; i++) {
            char name = (char) ('a' + i);
            b.append("layer ").append(name).append(" on 1=1;");
        }
        // Told from the highest layer to the lowest: the stack decides, not the order of the boxes.
        for (int i = 5; i >= 0; i--) {
            b.append("cel ").append((char) ('a' + i)).append(" 1 at 0 0 size ").append(7 - i).append(" 1 ink ").append(i + 1).append(";");
        }
        CelSheet x = Due.sheet(b.toString());
        int[] wants = {6, 6, 5, 4, 3, 2, 1, 0};
        // Layer 5 is 2 wide, layer 4 is 3 wide, .. layer 0 is 7 wide.
        for (int c = 0; c < 8; c++) {
            due("ink in column " + c, x.cell(0, c, 0), wants[c]);
            due("layer in column " + c, x.top(0, c, 0), wants[c] - 1);
        }
        due("raise", x.raise(4), 5);
        due("the highest then", x.top(0, 0, 0), 4);
        due("its ink", x.cell(0, 0, 0), 5);
        for (int place = 1; place <= 5; place++) {
            x.raise(0);
        }
        for (int c = 0; c < 7; c++) {
            due("the lowest raised over all, column " + c, x.top(0, c, 0), 0);
        }
        due("paper beside it", x.top(0, 7, 0), NONE);
        x.expose(0, 0, 0, 0);
        due("blank, it shows the next", x.top(0, 0, 0), 4);
        x.expose(4, 0, 0, 9);
        due("without a box, it shows the next", x.top(0, 0, 0), 5);
    }

    private static void toldLast() {
        String scene = "frames 2;layer a on 1=1 2;layer b on 1=blank;cel a 1 at 0 0 size 3 1 ink 1;cel a 1 at 1 0 size 2 1 ink 2;"
                + "cel a 2 at 0 0 size 12 8 ink 9;cel b 1 at 0 0 size 12 8 ink 8;cel a 1 at 2 0 size 2 1 ink 3;";
        Edge.row("cell(0, n, 0)", scene, (x, n) -> x.cell(0, n, 0), 0, 1, 2, 3, 3, 0);
        Edge.row("cell(1, n, 0)", scene, (x, n) -> x.cell(1, n, 0), 0, 9, 9, 9, 9, 9);
        // The same the other way round: what is told last covers all.
        String other = "frames 1;layer a on 1=1;cel a 1 at 2 0 size 2 1 ink 3;cel a 1 at 1 0 size 2 1 ink 2;cel a 1 at 0 0 size 3 1 ink 1;";
        Edge.row("cell(0, n, 0)", other, (x, n) -> x.cell(0, n, 0), 0, 1, 1, 1, 3, 0);
        // Forty of one drawing: the last one is the fortieth.
        String forty = "frames1;layer a on1=1;" + Edge.many(39, "cel a1at0 0size2 2ink1;") + "cel a1at1 1size1 1ink7;";
        due("of forty the last", Due.sheet(forty).cell(0, 1, 1), 7);
        due("beside the last", Due.sheet(forty).cell(0, 0, 1), 1);
    }

    private static void hiddenOnes() {
        CelSheet x = Due.sheet("frames 4;layer a on 1=1;layer b on 1=1;cel a 1 at 0 0 size 2 1 ink 1;cel b 1 at 0 0 size 1 1 ink 2;"
                + "hide b from 1 to 2;hide a from 2 to 3;");
        int[] left = {2, 1, 0, 2};
        int[] right = {1, 1, 0, 0};
        for (int f = 0; f < 4; f++) {
            due("left place in frame " + f, x.cell(f, 0, 0), left[f]);
            due("right place in frame " + f, x.cell(f, 1, 0), right[f]);
            due("layer in frame " + f, x.top(f, 0, 0), left[f] - 1);
        }
    }

    // ---- promises 21 and 22

    private static void ink() {
        for (int i = 0; i <= 9; i++) {
            int ink = i;
            Edge.refused("ink(n, " + ink + ")", Edge.NO_SCENE, (x, n) -> x.ink(n, ink), NONE, Edge.MIN, -1, 0, 1, Edge.MAX);
            Edge.refused("ink(n, " + ink + ")", Edge.LEAST, (x, n) -> x.ink(n, ink), NONE, Edge.MIN, -1, 1, Edge.MAX);
            Edge.refused("ink(n, " + ink + ")", Edge.FULL, (x, n) -> x.ink(n, ink), NONE, Edge.MIN, -1, 96, Edge.MAX);
        }
        Edge.row("ink(0, n)", Edge.LEAST, (x, n) -> x.ink(0, n), -2, NONE, NONE, 96, 0, 0, 0, 0, 0, 0, 0, 0, 0, NONE, NONE);
        Edge.refused("ink(0, n)", Edge.LEAST, (x, n) -> x.ink(0, n), NONE, Edge.MIN, 15, 16, Edge.MAX);
        Edge.row("ink(0, n)", Edge.FULL, (x, n) -> x.ink(0, n), -1, NONE, 95, 1, 0, 0, 0, 0, 0, 0, 0, 0, NONE);
        Edge.row("ink(95, n)", Edge.FULL, (x, n) -> x.ink(95, n), -1, NONE, 95, 0, 0, 0, 0, 0, 0, 0, 0, 1, NONE);
        Edge.row("ink(94, n)", Edge.FULL, (x, n) -> x.ink(94, n), -1, NONE, 96, 0, 0, 0, 0, 0, 0, 0, 0, 0, NONE);
        String all = Edge.LEAST + "cel a 1 at 0 0 size 12 8 ink 9;";
        Edge.row("ink(0, n) of all", all, (x, n) -> x.ink(0, n), 0, 0, 0, 0, 0, 0, 0, 0, 0, 0, 96, NONE);
        String nine = Edge.LEAST + "cel a 1 at 0 0 size 12 1 ink 1;cel a 1 at 1 0 size 11 1 ink 2;cel a 1 at 3 0 size 9 1 ink 3;"
                + "cel a 1 at 6 0 size 6 1 ink 4;cel a 1 at 10 0 size 12 2 ink 9;";
        Edge.row("ink(0, n) of some", nine, (x, n) -> x.ink(0, n), 0, 82, 1, 2, 3, 4, 0, 0, 0, 0, 4, NONE);
    }

    private static void seen() {
        Edge.refused("seen(n, 0)", Edge.NO_SCENE, (x, n) -> x.seen(n, 0), NONE, Edge.MIN, -1, 0, 1, Edge.MAX);
        Edge.row("seen(n, 0)", Edge.LEAST, (x, n) -> x.seen(n, 0), -1, NONE, 0, NONE);
        Edge.row("seen(0, n)", Edge.LEAST, (x, n) -> x.seen(0, n), -1, NONE, 0, NONE);
        Edge.row("seen(n, 0)", Edge.FULL, (x, n) -> x.seen(n, 0), -1, NONE, 1, 0, 0, 0, 0, 0, NONE);
        Edge.row("seen(n, 95)", Edge.FULL, (x, n) -> x.seen(n, 95), -1, NONE, 0, 0, 0, 0, 0, 1, NONE);
        Edge.row("seen(5, n)", Edge.FULL, (x, n) -> x.seen(5, n), 94, 0, 1, NONE);
        Edge.refused("seen(n, 0)", Edge.FULL, (x, n) -> x.seen(n, 0), NONE, Edge.MIN, Edge.MAX);
        Edge.refused("seen(0, n)", Edge.FULL, (x, n) -> x.seen(0, n), NONE, Edge.MIN, -1, Edge.MAX);
        CelSheet x = Due.sheet("frames 2;layer a on 1=1;layer b on 1=1;layer c on 1=blank 1;cel a 1 at 0 0 size 12 8 ink 3;"
                + "cel b 1 at 0 0 size 6 8 ink 3;cel b 1 at 0 0 size 1 1 ink 4;cel c 1 at 0 0 size 12 8 ink 3;");
        due("seen(0, 0)", x.seen(0, 0), 48);
        due("seen(1, 0), two boxes of it", x.seen(1, 0), 48);
        due("seen(2, 0), blank", x.seen(2, 0), 0);
        due("seen(0, 1), covered", x.seen(0, 1), 0);
        due("seen(2, 1), all", x.seen(2, 1), 96);
    }

    // ---- promises 23 to 25

    private static void same() {
        for (String scene : new String[] {Edge.NO_SCENE, Edge.LEAST, Edge.FULL}) {
            int last = scene == Edge.FULL ? 95 : 0;
            Edge.refused("same(n, 0)", scene, (x, n) -> x.same(n, 0), NONE, Edge.MIN, -1, last + 1, Edge.MAX);
            Edge.refused("same(0, n)", scene, (x, n) -> x.same(0, n), NONE, Edge.MIN, -1, last + 1, Edge.MAX);
            Edge.refused("same(n, n)", scene, (x, n) -> x.same(n, n), NONE, Edge.MIN, -1, last + 1, Edge.MAX);
        }
        due("same(0, 0) without a scene", new CelSheet().same(0, 0), NONE);
        due("same(0, 0) of the least", Due.sheet(Edge.LEAST).same(0, 0), 1);
        Edge.row("same(n, n)", Edge.FULL, (x, n) -> x.same(n, n), 93, 1, 1, 1, NONE);
        Edge.row("same(0, n)", Edge.FULL, (x, n) -> x.same(0, n), -1, NONE, 1, 0, 0);
        Edge.row("same(95, n)", Edge.FULL, (x, n) -> x.same(95, n), 93, 0, 0, 1, NONE);
        Edge.row("same(n, 94)", Edge.FULL, (x, n) -> x.same(n, 94), -1, NONE, 0, 1, 1);
        Edge.row("same(1, n)", Edge.FULL, (x, n) -> x.same(1, n), 92, 1, 1, 1, 0, NONE);
    }

    private static void like() {
        for (int what = 0; what <= 1; what++) {
            int w = what;
            Edge.refused("like(n, " + w + ")", Edge.NO_SCENE, (x, n) -> x.like(n, w), NONE, Edge.MIN, -1, 0, 1, Edge.MAX);
            Edge.refused("like(n, " + w + ")", Edge.LEAST, (x, n) -> x.like(n, w), NONE, Edge.MIN, -1, 1, Edge.MAX);
            Edge.refused("like(n, " + w + ")", Edge.FULL, (x, n) -> x.like(n, w), NONE, Edge.MIN, -1, 96, Edge.MAX);
        }
        Edge.row("like(0, n)", Edge.LEAST, (x, n) -> x.like(0, n), -2, NONE, NONE, 0, 1, NONE, NONE);
        Edge.refused("like(0, n)", Edge.LEAST, (x, n) -> x.like(0, n), NONE, Edge.MIN, Edge.MAX);
        int[][] wants = {{0, 0, 1}, {1, 1, 94}, {2, 1, 94}, {94, 1, 94}, {95, 95, 1}};
        for (int[] w : wants) {
            Edge.row("like(" + w[0] + ", n)", Edge.FULL, (x, n) -> x.like(w[0], n), -1, NONE, w[1], w[2], NONE);
        }
    }

    private static void take() {
        Edge.row("take", Edge.NO_SCENE, CelSheet::take, -2, NONE, 0, NONE, NONE);
        Edge.row("take", Edge.LEAST, CelSheet::take, -2, NONE, 1, 0, NONE);
        Edge.row("take", BLANK, CelSheet::take, -2, NONE, 1, 0, NONE);
        Edge.row("take", Edge.FULL, CelSheet::take, -2, NONE, 3, 0, 1, 95, NONE, NONE);
        Edge.row("take", Edge.MOVED, CelSheet::take, -2, NONE, 1, 0, NONE);
        for (String scene : new String[] {Edge.NO_SCENE, Edge.LEAST, Edge.FULL}) {
            Edge.refused("take", scene, CelSheet::take, NONE, Edge.MIN, Edge.MIN + 1, -3, 95, 96, 97, Edge.MAX);
        }
        // One of them comes again: it is like one ahead of it.
        String again = "frames 6;layer a on 1=1 2 1 3 2 4;layer b on 1=blank" + PAIR;
        Edge.row("take", again, CelSheet::take, -2, NONE, 3, 0, 1, 3, NONE);
    }

    private static void takesOfMany() {
        // A mark that goes through 96 places: no frame is like another one.
        StringBuilder b = new StringBuilder("frames 96;layer a on 1=1-12 loop;");
        for (int d = 1; d <= 12; d++) {
            b.append("cel a ").append(d).append(" at ").append(d - 1).append(" 0 size 1 1 ink 1;");
        }
        for (int y = 1; y < 8; y++) {
            b.append("slide a from ").append(12 * y).append(" to ").append(12 * y).append(" right 0 down 1;");
        }
        String text = b.toString();
        Edge.row("take of 96", text, CelSheet::take, -2, NONE, 96, 0, 1, 2);
        Edge.row("take of 96", text, CelSheet::take, 93, 93, 94, 95, NONE);
        due("saved(0) of 96", Due.sheet(text).saved(0), 0);
        due("still(0) of 96", Due.sheet(text).still(0), 1);
        due("still(1) of 96", Due.sheet(text).still(1), 0);
        due("like(95, 0) of 96", Due.sheet(text).like(95, 0), 95);
        due("turned(0, 95) of 96", Due.sheet(text).turned(0, 95), 96);
        due("best(0, 0) of 96", Due.sheet(text).best(0, 0), 0);
        due("best(0, 1) of 96", Due.sheet(text).best(0, 1), 96);
        due("without(0) of 96", Due.sheet(text).without(0), 1);
        due("doubled(0, 2) of 96", Due.sheet(text).doubled(0, 2), 48);
    }

    private static void takesComeAgain() {
        // A mark that goes through 48 places, and through them once more, twice or half as often.
        StringBuilder b = new StringBuilder("frames 96;layer a on 1=1-12 loop;layer b on 1=1-3;");
        for (int d = 1; d <= 12; d++) {
            b.append("cel a ").append(d).append(" at ").append(d - 1).append(" 0 size 1 1 ink 1;");
        }
        for (int step = 1; step < 8; step++) {
            String way = step == 4 ? " right 0 up 3;" : " right 0 down 1;";
            b.append("slide a from ").append(12 * step).append(" to ").append(12 * step).append(way);
        }
        CelSheet x = Due.sheet(b.toString());
        due("takes that come again", x.take(NONE), 48);
        for (int f = 0; f < 96; f++) {
            due("like(" + f + ", 0) of what comes again", x.like(f, 0), f % 48);
            due("like(" + f + ", 1) of what comes again", x.like(f, 1), 2);
        }
        for (int k = 0; k < 96; k += 5) {
            due("turned(0, " + k + ") of what comes again", x.turned(0, k), 48);
            due("turned(1, " + k + ") of what comes again", x.turned(1, k), 48);
        }
        due("best(0, 1) of what comes again", x.best(0, 1), 48);
        due("best(0, 0) of what comes again", x.best(0, 0), 0);
        due("doubled(0, 2) of what comes again", x.doubled(0, 2), 24);
        due("without(0) of what comes again", x.without(0), 1);
    }

    private static void takesAreWhole() {
        // Frames that differ in one place alone, by one ink, at each corner, are not alike.
        int[][] corners = {{0, 0}, {11, 0}, {0, 7}, {11, 7}, {5, 3}, {6, 4}};
        for (int[] c : corners) {
            String place = " at " + c[0] + " " + c[1] + " size 1 1 ink ";
            CelSheet x = Due.sheet("frames 3;layer a on 1=1 2 3;cel a 1" + place + "8;cel a 2" + place + "9;");
            due("takes at " + c[0] + ", " + c[1], x.take(NONE), 3);
            due("same at " + c[0] + ", " + c[1], x.same(0, 1), 0);
        }
        // Alike are frames by their inks: other drawings, layers or boxes, hidden or moved ones may show the same.
        CelSheet x = Due.sheet("frames 6;layer a on 1=1 2 3 blank x3;layer b on 1=blank x3 1 2 9;"
                + "cel a 1 at 2 2 size 2 1 ink 1;cel a 2 at 2 2 size 1 1 ink 1;cel a 2 at 3 2 size 1 1 ink 1;cel a 3 at 1 1 size 2 1 ink 1;"
                + "cel b 1 at 2 2 size 2 1 ink 1;cel b 2 at 2 2 size 2 1 ink 1;slide a from 2 to 2 right 1 down 1;hide b from 4 to 4;");
        int[] first = {0, 0, 0, 0, 4, 4};
        for (int f = 0; f < 6; f++) {
            due("like(" + f + ", 0)", x.like(f, 0), first[f]);
        }
        due("like(0, 1)", x.like(0, 1), 4);
    }

    /** Two layers that give each of 96 frames an ink of its own at two places: one in ten frames, one in each. */
    private static String each(int x, int y) {
        StringBuilder b = new StringBuilder("frames96;layer c on10=blank 1-9;layer d on1=blank 1-9loop;");
        for (int n = 1; n <= 9; n++) {
            b.append("cel c").append(n).append("at").append(x).append(' ').append(y).append("size1 1ink").append(n).append(';');
            b.append("cel d").append(n).append("at").append(x + 1).append(' ').append(y).append("size1 1ink").append(n).append(';');
        }
        return b.toString();
    }

    private static void takesOfOneRow() {
        // Nothing but one row of places, or two columns of one, tells the frames apart.
        for (int y = 0; y < 8; y++) {
            for (int c = 0; c < 11; c += 5) {
                CelSheet x = Due.sheet(each(c, y));
                String what = " at " + c + ", " + y;
                due("takes" + what, x.take(NONE), 96);
                for (int k = 0; k < 96; k++) {
                    due("take(" + k + ")" + what, x.take(k), k);
                    due("like(" + k + ", 1)" + what, x.like(k, 1), 1);
                }
                due("take(96)" + what, x.take(96), NONE);
                due("takes of every tenth" + what, x.without(1), 10);
                due("takes of each of ten" + what, x.without(0), 10);
            }
        }
    }

    // ---- promises 26 to 28

    private static void theStill(String drawings, int count, int first) {
        String text = "frames " + drawings.split(" ").length + ";layer a on 1=" + drawings + ";layer b on 1=blank" + PAIR;
        Edge.row("still(n) of " + drawings, text, CelSheet::still, -1, NONE, count, first, NONE);
    }

    private static void still() {
        for (String scene : new String[] {Edge.NO_SCENE, Edge.LEAST, Edge.FULL}) {
            Edge.refused("still", scene, CelSheet::still, NONE, Edge.MIN, -2, -1, 2, 3, Edge.MAX);
        }
        Edge.row("still", Edge.NO_SCENE, CelSheet::still, 0, NONE, NONE);
        Edge.row("still", Edge.LEAST, CelSheet::still, 0, 1, 0);
        Edge.row("still", Edge.FULL, CelSheet::still, 0, 94, 1);
        Edge.row("still", Edge.MOVED, CelSheet::still, 0, 96, 0);
        theStill("1 2", 1, 0);
        theStill("1 1", 2, 0);
        theStill("1 2 2", 2, 1);
        theStill("1 1 2", 2, 0);
        theStill("1 1 2 2", 2, 0);
        theStill("1 1 2 2 2", 3, 2);
        theStill("1 1 1 2 2 2", 3, 0);
        theStill("1 2 1 2", 1, 0);
        theStill("1 2 2 1 1 2 2", 2, 1);
        // Alike as they are composed, one behind the other, though the drawings are others.
        theStill("8 9 1 1", 2, 0);
        theStill("1 8 9 7 1", 3, 1);
        theStill("1 2 1 1 2 1 1 1", 3, 5);
    }

    private static void changes() {
        Edge.refused("changes", Edge.NO_SCENE, CelSheet::changes, NONE, Edge.MIN, -1, 0, 1, Edge.MAX);
        Edge.row("changes", Edge.LEAST, CelSheet::changes, -1, NONE, 1, NONE);
        Edge.row("changes", BLANK, CelSheet::changes, -1, NONE, 0, NONE);
        Edge.row("changes", Edge.FULL, CelSheet::changes, -1, NONE, 5, 3, 4);
        Edge.row("changes", Edge.FULL, CelSheet::changes, 23, 3, 5, 3);
        Edge.row("changes", Edge.FULL, CelSheet::changes, 94, 4, 3, NONE);
        Edge.refused("changes", Edge.FULL, CelSheet::changes, NONE, Edge.MIN, 97, Edge.MAX);
        Edge.row("changes", Edge.MOVED, CelSheet::changes, 0, 6, 0);
        // To blank and from blank are changes, too; without ink, and hidden, as well.
        String some = "frames 4;layer a on 1=1 blank x2 1;layer b on 1=blank x1 5 6 blank;hide b from 0 to 3;";
        Edge.row("changes", some, CelSheet::changes, -1, NONE, 1, 2, 1, 2, NONE);
        Edge.row("changes of six", Edge.FULL.replace("d on1=blank", "d on1=7-8x95"), CelSheet::changes, 95, 4, NONE);
        CelSheet x = Edge.line(3, "1=1 2 3");
        x.expose(0, 0, 0, 2);
        due("changes in the frame behind an act", x.changes(1), 0);
        due("changes in its first frame", x.changes(0), 1);
        x.expose(0, 0, 0, 0);
        due("changes of a blank first frame", x.changes(0), 0);
    }

    private static void savedOfAll() {
        for (String scene : new String[] {Edge.NO_SCENE, Edge.LEAST, Edge.FULL}) {
            Edge.refused("saved", scene, CelSheet::saved, NONE, Edge.MIN, -2, -1, 4, 5, Edge.MAX);
        }
        Edge.row("saved", Edge.NO_SCENE, CelSheet::saved, 0, NONE, NONE, NONE, NONE);
        Edge.row("saved", Edge.LEAST, CelSheet::saved, -1, NONE, 0, 0, 0, 0, NONE);
        Edge.row("saved", BLANK, CelSheet::saved, -1, NONE, 0, 0, 0, 0, NONE);
        // Frames that are not blank 480 less exposures 340; those less unlike drawings 201; 341 less marks 14.
        Edge.row("saved", Edge.FULL, CelSheet::saved, -1, NONE, 93, 140, 139, 327, NONE);
        Edge.row("saved", Edge.MOVED, CelSheet::saved, -1, NONE, 95, 570, 0, 0, NONE);
    }

    private static void savedOne() {
        // Blank frames and exposures count for what 3 alone.
        Edge.row("saved", "frames 6;layer a on 1=blank;", CelSheet::saved, 0, 5, 0, 0, 0);
        Edge.row("saved", "frames 6;layer a on 1=4;", CelSheet::saved, 0, 5, 5, 0, 0);
        Edge.row("saved", "frames 6;layer a on 1=1 blank loop;", CelSheet::saved, 0, 5, 0, 2, 3);
        Edge.row("saved", "frames 6;layer a on 1=1-6;", CelSheet::saved, 0, 5, 0, 0, 4);
        Edge.row("saved", "frames 6;layer a on 2=1 blank 1;", CelSheet::saved, 0, 5, 2, 1, 0);
        // Each layer's drawings are its own.
        Edge.row("saved", "frames 2;layer a on 1=1 2;layer b on 1=2 1;", CelSheet::saved, 0, 1, 0, 0, 0);
        CelSheet x = Due.sheet("frames 4;layer a on 1=1 2 1 2;cel a 1 at 0 0 size 1 1 ink 1;");
        int[][] wants = {{2, 0, 2, 1}, {2, 1, 1, 0}, {2, 0, 2, 1}};
        for (int i = 0; i < 3; i++) {
            for (int what = 0; what < 4; what++) {
                due("saved(" + what + ") of state " + i, x.saved(what), wants[i][what]);
            }
            if (i == 0) {
                x.expose(0, 1, 1, 1);
                x.expose(0, 2, 2, 2);
                x.expose(0, 3, 3, 1);
            } else {
                x.undo();
                x.undo();
                x.undo();
            }
        }
    }

    // ---- promises 29 and 30

    private static void turned() {
        Edge.refused("turned(n, 0)", Edge.NO_SCENE, (x, n) -> x.turned(n, 0), NONE, Edge.MIN, -1, 0, 1, Edge.MAX);
        Edge.refused("turned(n, 0)", Edge.LEAST, (x, n) -> x.turned(n, 0), NONE, Edge.MIN, -1, 1, Edge.MAX);
        Edge.refused("turned(n, 0)", Edge.FULL, (x, n) -> x.turned(n, 0), NONE, Edge.MIN, -1, 6, Edge.MAX);
        Edge.range("turned(0, n)", Edge.LEAST, (x, n) -> x.turned(0, n), NONE, 0, 1, 0, 1);
        Edge.range("turned(0, n)", Edge.FULL, (x, n) -> x.turned(0, n), NONE, 0, 3, 95, 3);
        Edge.range("turned(5, n)", Edge.FULL, (x, n) -> x.turned(5, n), NONE, 0, 3, 95, 2);
        Edge.row("turned(0, n)", Edge.FULL, (x, n) -> x.turned(0, n), -1, NONE, 3, 2, 3, 3);
        Edge.row("turned(5, n)", Edge.FULL, (x, n) -> x.turned(5, n), 93, 3, 3, 2, NONE);
        Edge.row("turned(n, 95)", Edge.FULL, (x, n) -> x.turned(n, 95), -1, NONE, 3, 3, 3, 3, 3, 2, NONE);
    }

    private static void turnedPastTheEnd() {
        // Layer b goes through 1 2 2; with a (1 2 2) together they make two pictures, else three.
        String scene = "frames 3;layer a on 1=1 2 2;layer b on 1=2 1 2" + PAIR;
        // By 1 it has 1 2 2 (together: 2 takes), by 2 it has 2 2 1.
        Edge.row("turned(1, n)", scene, (x, n) -> x.turned(1, n), -1, NONE, 3, 2, 3, NONE);
        // Layer a turned: by 1 it has 2 2 1, by 2 it has 2 1 2.
        Edge.row("turned(0, n)", scene, (x, n) -> x.turned(0, n), -1, NONE, 3, 3, 2, NONE);
        Edge.row("best(1, n)", scene, (x, n) -> x.best(1, n), -1, NONE, 1, 2, NONE);
        Edge.row("best(0, n)", scene, (x, n) -> x.best(0, n), -1, NONE, 2, 2, NONE);
        // It turns what it has, not its slides nor where it hides.
        String still = "frames 2;layer a on 1=1;cel a 1 at 0 0 size 1 1 ink 1;hide a from 1 to 1;";
        Edge.row("turned where it hides", still, (x, n) -> x.turned(0, n), 0, 2, 2, NONE);
        String slide = "frames 2;layer a on 1=1 blank;cel a 1 at 0 0 size 1 1 ink 1;slide a from 1 to 1 right 0 up 1;";
        Edge.row("turned where it slides out", slide, (x, n) -> x.turned(0, n), 0, 2, 1, NONE);
        Edge.row("best where it slides out", slide, (x, n) -> x.best(0, n), 0, 1, 1);
        // It stays where it is in the stack.
        String low = "frames 2;layer a on 1=1 2;layer b on 1=1" + PAIR + "cel b 1 at 0 0 size 1 1 ink 3;";
        Edge.row("turned below another", low, (x, n) -> x.turned(0, n), 0, 1, 1, NONE);
        CelSheet x = Due.sheet(low);
        x.raise(0);
        due("turned above it", x.turned(0, 1), 2);
    }

    private static void best() {
        for (int what = 0; what <= 1; what++) {
            int w = what;
            Edge.refused("best(n, " + w + ")", Edge.NO_SCENE, (x, n) -> x.best(n, w), NONE, Edge.MIN, -1, 0, 1, Edge.MAX);
            Edge.refused("best(n, " + w + ")", Edge.LEAST, (x, n) -> x.best(n, w), NONE, Edge.MIN, -1, 1, Edge.MAX);
            Edge.refused("best(n, " + w + ")", Edge.FULL, (x, n) -> x.best(n, w), NONE, Edge.MIN, -1, 6, Edge.MAX);
        }
        Edge.row("best(0, n)", Edge.LEAST, (x, n) -> x.best(0, n), -2, NONE, NONE, 0, 1, NONE, NONE);
        Edge.refused("best(0, n)", Edge.FULL, (x, n) -> x.best(0, n), NONE, Edge.MIN, -1, 2, Edge.MAX);
        // Layer 0 turned by 1, or layer 5 by 95, has its ink where the other one has its own.
        int[][] wants = {{1, 2}, {0, 3}, {0, 3}, {0, 3}, {0, 3}, {95, 2}};
        for (int layer = 0; layer < 6; layer++) {
            int l = layer;
            Edge.row("best(" + l + ", n)", Edge.FULL, (x, n) -> x.best(l, n), -1, NONE, wants[l][0], wants[l][1], NONE);
        }
    }

    private static void bestOfEqual() {
        // Of turns that are as good the least; also 0, when none is better.
        String round = "frames 4;layer a on 1=1 2 loop;layer b on 1=1 2 loop" + PAIR;
        Edge.row("turned(0, n)", round, (x, n) -> x.turned(0, n), 0, 2, 2, 2, 2, NONE);
        Edge.row("best(0, n)", round, (x, n) -> x.best(0, n), 0, 0, 2);
        String later = "frames 6;layer a on 1=1 2 3 loop;layer b on 1=2 2 1 loop" + PAIR
                + "cel a 3 at 0 0 size 1 1 ink 1;cel b 1 at 1 0 size 1 1 ink 2;cel b 2 at 1 0 size 1 1 ink 1;";
        // Inks of a: 1 2 1, of b: 1 1 2; b turned by 1 has 1 2 1, and by 4 again.
        Edge.row("turned(1, n)", later, (x, n) -> x.turned(1, n), 0, 3, 2, 3, 3, 2, 3, NONE);
        Edge.row("best(1, n)", later, (x, n) -> x.best(1, n), 0, 1, 2);
        CelSheet x = Due.sheet(later);
        x.turn(1, 1);
        due("best behind a turn", x.best(1, 0), 0);
        due("its takes", x.best(1, 1), 2);
        x.undo();
        due("best behind its undo", x.best(1, 0), 1);
    }

    private static void bestOfMany() {
        // Each frame has a picture of its own with each of 22 drawings: however it is turned, 96 takes.
        StringBuilder b = new StringBuilder(each(0, 7)).append("layer a on1=1-22loop;");
        for (int d = 1; d <= 22; d++) {
            b.append("cel a").append(d).append("at").append(d % 11 + 1).append(d < 11 ? " 0" : " 2").append("size1 2ink8;");
        }
        CelSheet x = Due.sheet(b.toString());
        due("boxes of many", x.look(2), 40);
        for (int layer = 0; layer < 3; layer++) {
            due("best(" + layer + ", 0) of many", x.best(layer, 0), 0);
            due("best(" + layer + ", 1) of many", x.best(layer, 1), 96);
            due("turned(" + layer + ", 1) of many", x.turned(layer, 1), 96);
            due("turned(" + layer + ", 95) of many", x.turned(layer, 95), 96);
        }
        due("takes of many", x.take(NONE), 96);
    }

    // ---- promises 31 and 32

    private static void without() {
        Edge.refused("without", Edge.NO_SCENE, CelSheet::without, NONE, Edge.MIN, -1, 0, 1, Edge.MAX);
        Edge.range("without", Edge.LEAST, CelSheet::without, NONE, 0, 1, 0, 1);
        Edge.range("without", Edge.FULL, CelSheet::without, NONE, 0, 2, 5, 2);
        Edge.row("without", Edge.FULL, CelSheet::without, -1, NONE, 2, 3, 3, 3, 3, 2, NONE);
        Edge.row("without", Edge.MOVED, CelSheet::without, -1, NONE, 1, 1, 1, 1, 1, 1, NONE);
        // A layer that covers others shows them when it is blank.
        String cover = "frames 2;layer a on 1=1 2;layer b on 1=1" + PAIR + "cel b 1 at 0 0 size 12 8 ink 3;";
        due("takes under a cover", Due.sheet(cover).take(NONE), 1);
        due("takes without the cover", Due.sheet(cover).without(1), 2);
        due("takes without what it covers", Due.sheet(cover).without(0), 1);
    }

    private static void doubled() {
        for (int what = 0; what <= 2; what++) {
            int w = what;
            Edge.refused("doubled(n, " + w + ")", Edge.NO_SCENE, (x, n) -> x.doubled(n, w), NONE, Edge.MIN, -1, 0, 1, Edge.MAX);
            Edge.refused("doubled(n, " + w + ")", Edge.LEAST, (x, n) -> x.doubled(n, w), NONE, Edge.MIN, -1, 1, Edge.MAX);
            Edge.refused("doubled(n, " + w + ")", Edge.FULL, (x, n) -> x.doubled(n, w), NONE, Edge.MIN, -1, 6, Edge.MAX);
        }
        Edge.row("doubled(0, n)", Edge.LEAST, (x, n) -> x.doubled(0, n), -2, NONE, NONE, 0, 1, 1, NONE, NONE);
        Edge.row("doubled(0, n)", BLANK, (x, n) -> x.doubled(0, n), -1, NONE, 0, 1, 1, NONE);
        Edge.refused("doubled(0, n)", Edge.FULL, (x, n) -> x.doubled(0, n), NONE, Edge.MIN, -1, 3, Edge.MAX);
        int[][] wants = {{48, 48, 3}, {0, 4, 3}, {48, 1, 3}, {0, 1, 3}, {0, 48, 3}, {48, 48, 2}};
        for (int layer = 0; layer < 6; layer++) {
            int l = layer;
            Edge.row("doubled(" + l + ", n)", Edge.FULL, (x, n) -> x.doubled(l, n), -1, NONE, wants[l][0], wants[l][1], wants[l][2], NONE);
        }
    }

    private static void theDoubled(int frames, String line, int others, int exposures, int takes) {
        String text = "frames " + frames + ";layer a on " + line + ";layer b on 1=blank" + PAIR;
        Edge.row("doubled(0, n) of " + line, text, (x, n) -> x.doubled(0, n), 0, others, exposures, takes);
    }

    private static void doubledOdd() {
        theDoubled(1, "1=1", 0, 1, 1);
        theDoubled(2, "1=1 2", 1, 1, 1);
        theDoubled(3, "1=1 2 1", 1, 1, 1);
        theDoubled(3, "1=1 1 2", 0, 2, 2);
        theDoubled(4, "1=1 2 2 1", 2, 2, 2);
        theDoubled(5, "1=1 2 2 1 blank", 2, 3, 3);
        theDoubled(5, "1=blank 1 2 2 2", 1, 2, 2);
        theDoubled(95, "1=1-95", 47, 48, 2);
        theDoubled(96, "1=1-96", 48, 48, 2);
        // 2 takes: ink 1 in frames 0 and 1, and paper; drawing 2 is gone.
        theDoubled(4, "1=1 2 9 2", 2, 2, 2);
        // On twos it goes together with the other layer: each frame has what is ahead, not what is behind.
        String pair = "frames 4;layer a on 1=1 9 2 9;layer b on 2=1 2" + PAIR;
        Edge.row("doubled(0, n) beside another", pair, (x, n) -> x.doubled(0, n), 0, 2, 2, 2);
        Edge.row("doubled(1, n) beside another", pair, (x, n) -> x.doubled(1, n), 0, 0, 2, 4);
    }

    // ---- what would be is not done

    private static void nothingIsDone() {
        CelSheet x = Due.sheet("frames 4;layer a on 1=1 2 2 1;layer b on 1=2 1 2 2" + PAIR);
        x.expose(0, 3, 3, 2);
        x.keep(1);
        String a = Edge.drawings(x, 0);
        String b = Edge.drawings(x, 1);
        int takes = x.take(NONE);
        for (int layer = 0; layer < 2; layer++) {
            for (int k = 0; k < 4; k++) {
                x.turned(layer, k);
                x.doubled(layer, k);
            }
            x.best(layer, 0);
            x.best(layer, 1);
            x.without(layer);
            Edge.alike("layer 0", Edge.drawings(x, 0), a);
            Edge.alike("layer 1", Edge.drawings(x, 1), b);
            due("takes", x.take(NONE), takes);
            due("marks", x.marks(layer), layer == 0 ? 2 : 3);
            due("acts", x.look(5), 1);
            due("apart", x.apart(1), 0);
            due("cell", x.cell(3, 0, 0), 2);
            due("top", x.top(3, 1, 0), 1);
        }
        due("undo", x.undo(), 0);
        due("undone", x.at(0, 3), 1);
    }

    private static void pictures(CelSheet x, String what, int... first) {
        for (int f = 0; f < first.length; f++) {
            due("like(" + f + ", 0) behind " + what, x.like(f, 0), first[f]);
        }
    }

    /** What is composed goes with each act, with undo, back and scene. */
    private static void behindActs() {
        CelSheet x = Due.sheet("frames 4;layer a on 1=1 2 1 2;layer b on 1=9;cel a 1 at 0 0 size 1 1 ink 1;cel a 2 at 0 0 size 1 1 ink 2;"
                + "cel b 1 at 0 0 size 12 8 ink 7;cel a 3 at 0 0 size 1 1 ink 3;");
        pictures(x, "scene", 0, 1, 0, 1);
        x.keep(0);
        x.expose(0, 3, 3, 3);
        pictures(x, "expose", 0, 1, 0, 3);
        x.push(0, 0, 1);
        pictures(x, "push", 0, 0, 2, 0);
        x.pull(0, 0, 2);
        pictures(x, "pull", 0, 1, 1, 1);
        x.turn(0, 1);
        pictures(x, "turn", 0, 0, 0, 3);
        x.undo();
        pictures(x, "undo", 0, 1, 1, 1);
        x.twos(0);
        pictures(x, "twos", 0, 0, 2, 2);
        x.expose(1, 1, 2, 1);
        pictures(x, "a cover", 0, 1, 1, 3);
        x.raise(0);
        pictures(x, "raise", 0, 1, 2, 3);
        due("ink of a raised one", x.cell(1, 0, 0), 2);
        x.undo();
        pictures(x, "undo of raise", 0, 1, 1, 3);
        x.back(0);
        pictures(x, "back", 0, 1, 0, 1);
        Due.scene(x, "frames 4;layer a on 1=1 2 1 2;cel a 1 at 0 0 size 1 1 ink 1;cel a 2 at 0 0 size 1 1 ink 1;");
        pictures(x, "another scene", 0, 0, 0, 0);
    }

    private static void takesAre(CelSheet x, String what, int... frames) {
        due("takes behind " + what, x.take(NONE), frames.length);
        due("saved(0) behind " + what, x.saved(0), x.look(0) - frames.length);
        for (int k = 0; k < frames.length; k++) {
            due("take(" + k + ") behind " + what, x.take(k), frames[k]);
        }
        due("take(-2) behind " + what, x.take(-2), NONE);
        due("take(" + frames.length + ") behind " + what, x.take(frames.length), NONE);
        due("take(95) behind " + what, x.take(95), NONE);
    }

    /** The takes go with each act, with undo, back and scene; what only asks leaves them. */
    private static void takesBehindActs() {
        String scene = "frames 5;layer a on 1=1 1 2 3 1;layer b on 1=blank" + PAIR + "cel a 3 at 0 0 size 1 1 ink 3;"
                + "cel b 3 at 0 0 size 12 8 ink 4;";
        CelSheet x = Due.sheet(scene);
        takesAre(x, "scene", 0, 2, 3);
        x.turn(0, 3);
        takesAre(x, "turn", 0, 1, 4);
        x.turned(0, 1);
        x.turned(1, 4);
        takesAre(x, "turned", 0, 1, 4);
        x.best(0, 0);
        x.best(1, 1);
        takesAre(x, "best", 0, 1, 4);
        x.without(0);
        takesAre(x, "without", 0, 1, 4);
        x.doubled(0, 2);
        takesAre(x, "doubled", 0, 1, 4);
        x.keep(0);
        x.push(0, 0, 2);
        takesAre(x, "push", 0, 3);
        x.undo();
        takesAre(x, "undo", 0, 1, 4);
        x.pull(0, 0, 1);
        takesAre(x, "pull", 0, 3);
        x.twos(0);
        takesAre(x, "twos", 0, 4);
        x.expose(0, 0, 3, 0);
        takesAre(x, "expose", 0, 4);
        x.expose(1, 1, 3, 3);
        takesAre(x, "a cover", 0, 1, 4);
        x.expose(0, 2, 2, 3);
        takesAre(x, "what is covered", 0, 1, 4);
        x.raise(0);
        takesAre(x, "raise", 0, 1, 2, 4);
        x.expose(0, 5, 5, 3);
        x.turn(0, 5);
        x.raise(0);
        takesAre(x, "what is refused", 0, 1, 2, 4);
        Due.scene(x, scene + "?");
        takesAre(x, "a scene with a fault", 0, 1, 2, 4);
        x.back(0);
        takesAre(x, "back", 0, 1, 4);
        Due.scene(x, scene);
        takesAre(x, "the same scene", 0, 2, 3);
        Due.scene(x, Edge.LEAST);
        takesAre(x, "the least scene", 0);
        x.expose(0, 0, 0, 0);
        takesAre(x, "a blank one", 0);
    }
}

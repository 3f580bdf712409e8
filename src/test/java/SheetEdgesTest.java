/** Promises 7 to 18 at their edges: what is told, and the sheet, without a scene, with the least, with full ones. */
public final class SheetEdgesTest {
    private static final int NONE = Edge.NONE;
    private static final int NOTHING = Edge.NOTHING;
    private static final String BLANK = "frames 1;layer a on 24=blank;";

    private SheetEdgesTest() {
    }

    private static void due(String what, int got, int want) {
        Due.due(what, got, want);
    }

    public static void main(String[] args) {
        look();
        lookAtActs();
        lookAtTape();
        layer();
        layersOfFull();
        jumps();
        drawingsOfLayer();
        spelt();
        box();
        boxFields();
        at();
        told();
        hold();
        holdsAfterActs();
        find();
        cycleOfFull();
        cycleBounds();
        cycleLeast();
        cycleCloses();
        cycleAfterActs();
        marksOfFull();
        marksOfRuns();
        marksOfRounds();
        marksOfSwings();
        marksOfMany();
        shift();
        shiftAdds();
        hidden();
        sceneBehindScenes();
        Due.end("SheetEdgesTest");
    }

    // ---- promise 7

    private static void look() {
        String[] scenes = {Edge.NO_SCENE, Edge.LEAST, BLANK, Edge.FULL, Edge.MOVED};
        int[][] wants = {{0, 0, 0, 0, 0, 0, 0}, {1, 1, 0, 0, 0, 0, 0}, {1, 1, 0, 0, 0, 0, 0},
            {96, 6, 40, 1, 1, 0, 0}, {96, 6, 0, 12, 12, 0, 0}};
        for (int i = 0; i < scenes.length; i++) {
            Edge.row("look", scenes[i], CelSheet::look, 0, wants[i]);
            Edge.refused("look", scenes[i], CelSheet::look, NONE, Edge.MIN, -2, -1, 7, 8, Edge.MAX);
        }
        // A scene takes the place of the one ahead of it, whole.
        CelSheet x = Due.sheet(Edge.FULL);
        Due.scene(x, Edge.LEAST);
        for (int what = 0; what <= 6; what++) {
            due("look(" + what + ") of the least behind a full one", x.look(what), wants[1][what]);
        }
    }

    private static void lookAtActs() {
        CelSheet x = Due.sheet(Edge.LEAST);
        for (int n = 1; n <= 45; n++) {
            x.expose(0, 0, 0, n % 2 == 0 ? 1 : 2);
            due("acts after " + n, x.look(5), Math.min(n, 20));
        }
        x.undo();
        due("acts after undo", x.look(5), 19);
        x.keep(0);
        due("acts after keep", x.look(5), 19);
        x.expose(0, 0, 0, 7);
        due("acts after one more", x.look(5), 20);
        x.back(0);
        due("acts after back", x.look(5), 0);
        x.expose(0, 0, 0, 8);
        x.scene();
        due("acts after a fault", x.look(5), 1);
        Due.scene(x, Edge.LEAST);
        due("acts after a scene", x.look(5), 0);
    }

    private static void lookAtTape() {
        for (int n : new int[] {0, 1, 19, 20, 21, 1181, 1199, 1200}) {
            for (String scene : new String[] {Edge.NO_SCENE, Edge.LEAST}) {
                CelSheet x = Edge.object(scene);
                Due.tell(x, " ".repeat(n));
                due("tape of " + n, x.look(6), n);
                due("frames beside it", x.look(0), scene == Edge.NO_SCENE ? 0 : 1);
            }
        }
    }

    // ---- promise 8

    private static void layer() {
        Edge.refused("layer(n, 0)", Edge.NO_SCENE, (x, n) -> x.layer(n, 0), NONE, Edge.MIN, -1, 0, 1, Edge.MAX);
        for (int what = 0; what <= 6; what++) {
            int w = what;
            Edge.refused("layer(n, " + w + ") of one", Edge.LEAST, (x, n) -> x.layer(n, w), NONE, Edge.MIN, -1, 1, 6, Edge.MAX);
            Edge.refused("layer(n, " + w + ") of six", Edge.FULL, (x, n) -> x.layer(n, w), NONE, Edge.MIN, -1, 6, 7, Edge.MAX);
        }
        Edge.row("layer(0, n) of the least", Edge.LEAST, (x, n) -> x.layer(0, n), -2, NONE, NONE, 1, 0, 1, 1, 1, 0, 1, NONE, NONE);
        Edge.row("layer(0, n) of a blank", BLANK, (x, n) -> x.layer(0, n), -2, NONE, NONE, 24, 0, 1, 0, 0, 0, 0, NONE, NONE);
        Edge.refused("layer(0, n)", Edge.LEAST, (x, n) -> x.layer(0, n), NONE, Edge.MIN, Edge.MAX);
        Edge.refused("layer(5, n)", Edge.FULL, (x, n) -> x.layer(5, n), NONE, Edge.MIN, -1, 7, Edge.MAX);
    }

    private static void layersOfFull() {
        int[][] wants = {{1, 0, 96, 96, 96, 0, 96}, {24, 1, 4, 4, 96, 0, 4}, {1, 2, 96, 2, 96, 95, 3},
            {1, 3, 1, 0, 0, 0, 0}, {2, 4, 48, 3, 96, 0, 3}, {1, 5, 96, 96, 96, 0, 99}};
        for (int layer = 0; layer < 6; layer++) {
            int l = layer;
            Edge.row("layer(" + l + ", n) of a full scene", Edge.FULL, (x, n) -> x.layer(l, n), 0, wants[l]);
        }
        // Its place goes with the stack, what it has with the acts; ON stays as it was told.
        CelSheet x = Due.sheet(Edge.FULL);
        for (int place = 1; place <= 5; place++) {
            x.raise(0);
            due("place of the raised", x.layer(0, 1), place);
            due("place of the lowered", x.layer(place, 1), place - 1);
        }
        x.twos(0);
        int[] then = {1, 5, 48, 48, 96, 47, 95};
        for (int what = 0; what <= 6; what++) {
            due("layer(0, " + what + ") on twos", x.layer(0, what), then[what]);
        }
        x.expose(1, 0, 95, 0);
        due("on of what is blank", x.layer(1, 0), 24);
        due("filled of what is blank", x.layer(1, 4), 0);
        x.expose(1, 95, 95, 99);
        due("filled in the last frame", x.layer(1, 4), 1);
        due("exposures with the last frame", x.layer(1, 2), 2);
        due("greatest in the last frame", x.layer(1, 6), 99);
        x.expose(1, 95, 95, 0);
        x.expose(1, 0, 0, 1);
        due("filled in the first frame", x.layer(1, 4), 1);
        due("exposures with the first frame", x.layer(1, 2), 2);
        due("greatest in the first frame", x.layer(1, 6), 1);
    }

    private static void theJumps(int frames, String line, int want) {
        due("jumps of " + line, Edge.line(frames, line).layer(0, 5), want);
    }

    private static void jumps() {
        theJumps(2, "1=5 5", 0);
        theJumps(2, "1=5 6", 0);
        theJumps(2, "1=5 7", 1);
        theJumps(2, "1=6 5", 0);
        theJumps(2, "1=7 5", 1);
        theJumps(2, "1=1 99", 1);
        theJumps(2, "1=99 1", 1);
        theJumps(2, "1=blank 2", 0);
        theJumps(2, "1=2 blank", 0);
        theJumps(3, "1=9 blank 5", 0);
        theJumps(3, "1=1 3 1", 2);
        theJumps(3, "1=1 3 blank", 1);
        theJumps(3, "1=blank 3 1", 1);
        theJumps(6, "2=1 3 6", 2);
        theJumps(6, "1=1-6", 0);
    }

    private static void drawingsOfLayer() {
        CelSheet x = Edge.line(6, "1=1 blank 1 99 63 64");
        int[] wants = {1, 0, 6, 4, 5, 2, 99};
        for (int what = 0; what < wants.length; what++) {
            due("layer(0, " + what + ")", x.layer(0, what), wants[what]);
        }
        due("unlike of 1 and 65", Edge.line(2, "1=1 65").layer(0, 3), 2);
        due("unlike of 32 and 96", Edge.line(2, "1=32 96").layer(0, 3), 2);
        due("unlike of 99", Edge.line(2, "1=99").layer(0, 3), 1);
        due("exposures parted by another", Edge.line(3, "1=4 5 4").layer(0, 2), 3);
        due("unlike parted by another", Edge.line(3, "1=4 5 4").layer(0, 3), 2);
        due("exposures of two holds alike", Edge.line(4, "2=4 4").layer(0, 2), 1);
        due("greatest is not the last", Edge.line(3, "1=4 9 5").layer(0, 6), 9);
    }

    // ---- promises 9 and 10

    private static void spelt() {
        Edge.refused("spelt(n, -1)", Edge.NO_SCENE, (x, n) -> x.spelt(n, NONE), NONE, Edge.MIN, -1, 0, 1, Edge.MAX);
        Edge.refused("spelt(n, 0)", Edge.LEAST, (x, n) -> x.spelt(n, 0), NONE, Edge.MIN, -1, 1, Edge.MAX);
        Edge.refused("spelt(n, -1)", Edge.LEAST, (x, n) -> x.spelt(n, NONE), NONE, Edge.MIN, -1, 1, Edge.MAX);
        Edge.refused("spelt(n, -1)", Edge.FULL, (x, n) -> x.spelt(n, NONE), NONE, Edge.MIN, -1, 6, Edge.MAX);
        Edge.row("spelt(0, n)", Edge.LEAST, (x, n) -> x.spelt(0, n), -3, NONE, NONE, 1, 'a', NONE, NONE);
        Edge.row("spelt(4, n)", Edge.FULL, (x, n) -> x.spelt(4, n), -2, NONE, 1, 'e', NONE);
        Edge.row("spelt(5, n)", Edge.FULL, (x, n) -> x.spelt(5, n), -2, NONE, 6, 'a', 'b', 'c', 'd', 'e', 'f', NONE, NONE);
        Edge.refused("spelt(5, n)", Edge.FULL, (x, n) -> x.spelt(5, n), NONE, Edge.MIN, Edge.MAX);
        Edge.row("spelt of z", "frames 1;layer zyzaz on 1=1;", (x, n) -> x.spelt(0, n), -1, 5, 'z', 'y', 'z', 'a', 'z', NONE);
        // A shorter name leaves nothing of the longer one ahead.
        CelSheet x = Due.sheet("frames 1;layer abcdef on 1=1;");
        Due.scene(x, "frames 1;layer zz on 1=1;");
        due("letters", x.spelt(0, NONE), 2);
        due("second letter", x.spelt(0, 1), 'z');
        due("third letter", x.spelt(0, 2), NONE);
    }

    private static void box() {
        Edge.refused("box(n, 0)", Edge.NO_SCENE, (x, n) -> x.box(n, 0), NONE, Edge.MIN, -1, 0, 1, Edge.MAX);
        Edge.refused("box(n, 0)", Edge.LEAST, (x, n) -> x.box(n, 0), NONE, Edge.MIN, -1, 0, 1, Edge.MAX);
        Edge.range("box(n, 6)", Edge.FULL, (x, n) -> x.box(n, 6), NONE, 0, 1, 39, 9);
        Edge.range("box(n, 0)", Edge.FULL, (x, n) -> x.box(n, 0), NONE, 0, 0, 39, 5);
        Edge.row("box(0, n)", Edge.FULL, (x, n) -> x.box(0, n), -1, NONE, 0, 1, 0, 0, 1, 1, 1, NONE);
        Edge.row("box(38, n)", Edge.FULL, (x, n) -> x.box(38, n), -1, NONE, 0, 1, 0, 0, 1, 1, 1, NONE);
        Edge.row("box(39, n)", Edge.FULL, (x, n) -> x.box(39, n), -1, NONE, 5, 99, 11, 7, 12, 8, 9, NONE);
        Edge.refused("box(39, n)", Edge.FULL, (x, n) -> x.box(39, n), NONE, Edge.MIN, -1, 7, 8, Edge.MAX);
        String two = "frames 2;layer a on 1=1;cel a 2 at 3 4 size 5 6 ink 7;layer b on 1=1;cel b 9 at 8 6 size 4 3 ink 2;";
        Edge.range("box(n, 1) of two", two, (x, n) -> x.box(n, 1), NONE, 0, 2, 1, 9);
        Edge.row("box(0, n) of two", two, (x, n) -> x.box(0, n), 0, 0, 2, 3, 4, 5, 6, 7);
        Edge.row("box(1, n) of two", two, (x, n) -> x.box(1, n), 0, 1, 9, 8, 6, 4, 3, 2);
        // Boxes are as they were told, in the order in which they were told, whatever the acts do.
        CelSheet x = Due.sheet("frames 2;layer a on 1=1;layer b on 1=2;cel b 2 at 0 0 size 1 1 ink 1;cel a 1 at 1 1 size 2 2 ink 3;");
        x.raise(0);
        x.expose(0, 0, 1, 9);
        due("the first", x.box(0, 0), 1);
        due("the second", x.box(1, 0), 0);
        due("its drawing", x.box(1, 1), 1);
        due("its place", x.box(1, 2), 1);
    }

    private static void boxFields() {
        int[] low = {0, 1, 0, 0, 1, 1, 1};
        int[] high = {0, 99, 11, 7, 12, 8, 9};
        for (int what = 1; what <= 6; what++) {
            for (int n : new int[] {low[what], high[what]}) {
                int[] facts = {0, 2, 3, 3, 3, 3, 3};
                facts[what] = n;
                CelSheet x = Due.sheet("frames 1;layer a on 1=1;cel a " + facts[1] + " at " + facts[2] + " " + facts[3]
                        + " size " + facts[4] + " " + facts[5] + " ink " + facts[6] + ";");
                for (int k = 0; k <= 6; k++) {
                    due("box(0, " + k + ") with " + n, x.box(0, k), facts[k]);
                }
            }
        }
    }

    // ---- promises 11 and 12

    private static void placesOf(String what, Edge.Ask ofLayer, Edge.Ask ofFrame, int refusal) {
        Edge.refused(what + "(n, 0)", Edge.NO_SCENE, ofLayer, refusal, Edge.MIN, -1, 0, 1, Edge.MAX);
        Edge.refused(what + "(0, n)", Edge.NO_SCENE, ofFrame, refusal, Edge.MIN, -1, 0, 1, Edge.MAX);
        Edge.refused(what + "(n, 0)", Edge.LEAST, ofLayer, refusal, Edge.MIN, -1, 1, 6, Edge.MAX);
        Edge.refused(what + "(0, n)", Edge.LEAST, ofFrame, refusal, Edge.MIN, -1, 1, 2, 95, Edge.MAX);
        Edge.refused(what + "(n, 0)", Edge.FULL, ofLayer, refusal, Edge.MIN, -1, 6, 7, Edge.MAX);
        Edge.refused(what + "(0, n)", Edge.FULL, ofFrame, refusal, Edge.MIN, -1, 96, 97, Edge.MAX);
        Edge.refused(what + "(0, n)", "frames 95;layer a on 1=1;", ofFrame, refusal, -1, 95, 96);
    }

    private static void at() {
        placesOf("at", (x, n) -> x.at(n, 0), (x, n) -> x.at(0, n), NONE);
        Edge.row("at(0, n)", Edge.LEAST, (x, n) -> x.at(0, n), -1, NONE, 1, NONE);
        Edge.row("at(0, n)", BLANK, (x, n) -> x.at(0, n), -1, NONE, 0, NONE);
        Edge.row("at(n, 0)", Edge.FULL, (x, n) -> x.at(n, 0), -1, NONE, 1, 1, 1, 0, 1, 4, NONE);
        Edge.row("at(n, 95)", Edge.FULL, (x, n) -> x.at(n, 95), -1, NONE, 96, 4, 3, 0, 2, 99, NONE);
        for (int f = 0; f < 96; f++) {
            int frame = f;
            int[] e = {1, 1, 2, 2, 3, 3, 2, 2};
            Edge.row("at(n, " + f + ")", Edge.FULL, (x, n) -> x.at(n, frame), 0,
                    f + 1, f / 24 + 1, f % 2 == 0 ? 1 : 3, 0, e[f % 8], f + 4);
        }
        CelSheet x = Due.sheet(Edge.FULL);
        x.expose(5, 95, 95, 0);
        due("the last place", x.at(5, 95), 0);
        due("beside it", x.at(5, 94), 98);
        due("above it", x.at(4, 95), 2);
    }

    private static void told() {
        placesOf("told", (x, n) -> x.told(n, 0), (x, n) -> x.told(0, n), NONE);
        Edge.row("told(n, 95)", Edge.FULL, (x, n) -> x.told(n, 95), -1, NONE, 96, 4, 3, 0, 2, 99, NONE);
        Edge.row("told(0, n)", Edge.LEAST, (x, n) -> x.told(0, n), -1, NONE, 1, NONE);
        // It stays as it was told, whatever the acts do.
        CelSheet x = Edge.line(4, "1=1 2 blank 4");
        int[] wants = {1, 2, 0, 4};
        for (int act = 0; act < 8; act++) {
            switch (act) {
                case 0: x.expose(0, 0, 3, 9); break;
                case 1: x.undo(); break;
                case 2: x.push(0, 0, 2); break;
                case 3: x.pull(0, 1, 2); break;
                case 4: x.turn(0, 1); break;
                case 5: x.twos(0); break;
                case 6: x.keep(0); break;
                default: x.expose(0, 0, 3, 0); x.back(0);
            }
            for (int f = 0; f < 4; f++) {
                due("told(0, " + f + ") behind act " + act, x.told(0, f), wants[f]);
            }
        }
        Due.scene(x, "frames 4;layer a on 1=5 6");
        due("told behind a fault", x.told(0, 3), 4);
        Due.scene(x, "frames 3;layer a on 1=5 6;");
        due("told behind a scene", x.told(0, 2), 6);
        due("told where that has no frame", x.told(0, 3), NONE);
    }

    // ---- promises 13 and 14

    private static void hold() {
        for (int what = 0; what <= 2; what++) {
            int w = what;
            placesOf("hold", (x, n) -> x.hold(n, 0, w), (x, n) -> x.hold(0, n, w), NONE);
        }
        Edge.row("hold(0, 0, n)", Edge.LEAST, (x, n) -> x.hold(0, 0, n), -2, NONE, NONE, 0, 1, 0, NONE, NONE);
        Edge.refused("hold(0, 0, n)", Edge.LEAST, (x, n) -> x.hold(0, 0, n), NONE, Edge.MIN, Edge.MAX);
        Edge.row("hold(0, 0, n)", BLANK, (x, n) -> x.hold(0, 0, n), -1, NONE, 0, 1, 0, NONE);
        int[][] places = {{0, 0}, {0, 95}, {1, 0}, {1, 23}, {1, 24}, {1, 71}, {1, 72}, {1, 95}, {3, 0}, {3, 95},
            {4, 0}, {4, 1}, {4, 2}, {4, 94}, {4, 95}, {5, 95}};
        int[][] wants = {{0, 1, 0}, {95, 1, 95}, {0, 24, 0}, {0, 24, 0}, {24, 24, 1}, {48, 24, 2}, {72, 24, 3}, {72, 24, 3},
            {0, 96, 0}, {0, 96, 0}, {0, 2, 0}, {0, 2, 0}, {2, 2, 1}, {94, 2, 47}, {94, 2, 47}, {95, 1, 95}};
        for (int i = 0; i < places.length; i++) {
            int[] p = places[i];
            Edge.row("hold(" + p[0] + ", " + p[1] + ", n)", Edge.FULL, (x, n) -> x.hold(p[0], p[1], n), -1,
                    NONE, wants[i][0], wants[i][1], wants[i][2], NONE);
        }
        // Alike ones that are parted are two; blank ones count, too.
        String line = "frames 7;layer a on 1=3 3 blank x2 3 4 4;";
        int[] first = {0, 0, 2, 2, 4, 5, 5};
        int[] count = {2, 2, 2, 2, 1, 2, 2};
        int[] which = {0, 0, 1, 1, 2, 3, 3};
        Edge.row("hold(0, n, 0)", line, (x, n) -> x.hold(0, n, 0), 0, first);
        Edge.row("hold(0, n, 1)", line, (x, n) -> x.hold(0, n, 1), 0, count);
        Edge.row("hold(0, n, 2)", line, (x, n) -> x.hold(0, n, 2), 0, which);
    }

    private static void holdsAfterActs() {
        CelSheet x = Edge.line(5, "1=1-5");
        x.expose(0, 1, 3, 1);
        due("grown", x.hold(0, 0, 1), 4);
        x.expose(0, 4, 4, 1);
        due("one of all", x.hold(0, 4, 0), 0);
        due("all of it", x.hold(0, 4, 1), 5);
        x.expose(0, 2, 2, 0);
        due("the first part", x.hold(0, 1, 1), 2);
        due("the blank between", x.hold(0, 2, 1), 1);
        due("the last part", x.hold(0, 4, 0), 3);
        due("which one", x.hold(0, 4, 2), 2);
    }

    private static void find() {
        Edge.refused("find(n, 0, 0)", Edge.NO_SCENE, (x, n) -> x.find(n, 0, 0), NONE, Edge.MIN, -1, 0, 1, Edge.MAX);
        Edge.refused("find(n, 1, 0)", Edge.LEAST, (x, n) -> x.find(n, 1, 0), NONE, Edge.MIN, -1, 1, Edge.MAX);
        Edge.refused("find(0, n, 0)", Edge.LEAST, (x, n) -> x.find(0, n, 0), NONE, Edge.MIN, -1, 0, 2, 99, 100, Edge.MAX);
        Edge.refused("find(0, 1, n)", Edge.LEAST, (x, n) -> x.find(0, 1, n), NONE, Edge.MIN, -1, 1, Edge.MAX);
        due("find of the least", Due.sheet(Edge.LEAST).find(0, 1, 0), 0);
        due("find of the blank", Due.sheet(BLANK).find(0, 0, 0), 0);
        due("find of what a blank hasn't", Due.sheet(BLANK).find(0, 1, 0), NONE);
        Edge.row("find(n, 1, 0)", Edge.FULL, (x, n) -> x.find(n, 1, 0), -1, NONE, 0, 0, 0, NONE, 0, NONE, NONE);
        Edge.range("find(3, 0, n)", Edge.FULL, (x, n) -> x.find(3, 0, n), NONE, 0, 0, 95, 95);
        Edge.range("find(2, 3, n)", Edge.FULL, (x, n) -> x.find(2, 3, n), NONE, 0, 1, 47, 95);
        Edge.range("find(2, 1, n)", Edge.FULL, (x, n) -> x.find(2, 1, n), NONE, 0, 0, 47, 94);
        Edge.range("find(5, n, 0)", Edge.FULL, (x, n) -> x.find(5, n, 0), NONE, 4, 0, 99, 95);
        Edge.range("find(0, n, 0)", Edge.FULL, (x, n) -> x.find(0, n, 0), NONE, 1, 0, 96, 95);
        Edge.refused("find(6, n, 0)", Edge.FULL, (x, n) -> x.find(6, n, 0), NONE, 0, 1, 99);
        // Drawings from 0 to 99, and none beyond, though -1 is told of no place as well.
        CelSheet x = Edge.line(4, "1=99 blank 99 blank");
        due("find(0, 99, 1)", x.find(0, 99, 1), 2);
        due("find(0, 0, 1)", x.find(0, 0, 1), 3);
        due("find(0, 100, 0)", x.find(0, 100, 0), NONE);
        due("find(0, -1, 0)", x.find(0, -1, 0), NONE);
        x.expose(0, 3, 3, 99);
        due("find(0, 99, 2) behind an act", x.find(0, 99, 2), 3);
        due("find(0, 0, 1) behind an act", x.find(0, 0, 1), NONE);
    }

    // ---- promise 15

    private static void theCycle(int frames, String line, int begin, int period, int rounds, int closes) {
        CelSheet x = Edge.line(frames, line);
        int[] wants = {NONE, begin, period, rounds, closes, NONE};
        for (int what = -1; what <= 4; what++) {
            due("cycle(0, " + what + ") of " + frames + ": " + line, x.cycle(0, what), wants[what + 1]);
        }
    }

    private static void noCycle(int frames, String line) {
        theCycle(frames, line, NONE, NONE, NONE, NONE);
    }

    private static void cycleOfFull() {
        for (int what = -1; what <= 4; what++) {
            int w = what;
            Edge.refused("cycle(n, " + w + ")", Edge.NO_SCENE, (x, n) -> x.cycle(n, w), NONE, Edge.MIN, -1, 0, 1, Edge.MAX);
            Edge.refused("cycle(n, " + w + ")", Edge.LEAST, (x, n) -> x.cycle(n, w), NONE, Edge.MIN, -1, 0, 1, Edge.MAX);
            Edge.refused("cycle(n, " + w + ")", Edge.FULL, (x, n) -> x.cycle(n, w), NONE, -1, 0, 1, 3, 5, 6, Edge.MAX);
        }
        Edge.row("cycle(2, n)", Edge.FULL, (x, n) -> x.cycle(2, n), -2, NONE, NONE, 0, 2, 48, 0, NONE, NONE);
        Edge.row("cycle(4, n)", Edge.FULL, (x, n) -> x.cycle(4, n), -2, NONE, NONE, 0, 8, 12, 1, NONE, NONE);
        Edge.refused("cycle(4, n)", Edge.FULL, (x, n) -> x.cycle(4, n), NONE, Edge.MIN, -1, 4, Edge.MAX);
    }

    private static void cycleBounds() {
        // b and twice p at most the frames.
        theCycle(4, "1=1 2 1 2", 0, 2, 2, 1);
        noCycle(3, "1=1 2 1 2");
        noCycle(2, "1=1 2 1 2");
        noCycle(1, "1=1 2");
        theCycle(5, "1=1 2 1 2 1", 0, 2, 2, 1);
        theCycle(6, "1=1-3 1-3", 0, 3, 2, 0);
        noCycle(5, "1=1-3 1-3");
        theCycle(5, "1=9 1 2 1 2", 1, 2, 2, 1);
        noCycle(4, "1=9 1 2 1 2");
        theCycle(7, "1=9 8 7 1 2 1 2", 3, 2, 2, 1);
        noCycle(7, "1=9 8 7 6 1 2 1");
        theCycle(96, "1=(1-48)x2", 0, 48, 2, 0);
        noCycle(95, "1=(1-48)x2");
        theCycle(96, "1=99 98 (1-47)x2", 2, 47, 2, 0);
        noCycle(95, "1=99 98 (1-47)x2");
        theCycle(96, "1=1-92 (98 99)x2", 92, 2, 2, 1);
        noCycle(96, "1=1-93 98 99 98 99");
        // Up to the last frame it has what it had.
        noCycle(5, "1=1 2 1 2 2");
        noCycle(5, "1=1 2 1 2 blank");
        noCycle(7, "1=1 2 1 2 1 2 3");
        noCycle(96, "1=(1 2)x47 1 1");
        theCycle(95, "1=(1 2)x47 1", 0, 2, 47, 1);
        // From b and p on: what stands ahead of b is free.
        theCycle(6, "1=2 2 1 2 1 2", 1, 2, 2, 1);
        theCycle(6, "1=blank 2 1 2 1 2", 1, 2, 2, 1);
        theCycle(6, "1=1 2 1 2 1 2", 0, 2, 3, 1);
        // Two unlike drawings at least, one of them blank at most.
        noCycle(4, "1=1");
        noCycle(4, "1=blank");
        noCycle(6, "1=1 2 2");
        noCycle(6, "1=1 2 1 1 1 1");
        theCycle(6, "1=1 1 2 1 1 2", 0, 3, 2, 1);
        theCycle(4, "1=1 blank 1 blank", 0, 2, 2, 0);
        // Whole rounds.
        theCycle(6, "1=1-3 loop", 0, 3, 2, 0);
        theCycle(8, "1=1-3 loop", 0, 3, 2, 0);
        theCycle(9, "1=1-3 loop", 0, 3, 3, 0);
        theCycle(6, "1=9 (1 2)x9", 1, 2, 2, 1);
        theCycle(7, "1=9 (1 2)x9", 1, 2, 3, 1);
    }

    private static void cycleLeast() {
        // The least b goes ahead of the least p; of one b the least p.
        theCycle(10, "1=5 1 2 1 2 5 1 2 1 2", 0, 5, 2, 0);
        theCycle(9, "1=1 2 1 2 7 1 2 1 2", 5, 2, 2, 1);
        theCycle(8, "1=(1 2)x4", 0, 2, 4, 1);
        theCycle(12, "1=(1-3)x4", 0, 3, 4, 0);
        theCycle(12, "1=(1 1 2)x4", 0, 3, 4, 1);
        theCycle(12, "1=1 1 2 1 1 2 1 2 1 2 1 2", 4, 2, 4, 1);
        theCycle(11, "1=3 1 2 1 2 3 1 2 1 2 3", 0, 5, 2, 1);
        theCycle(96, "1=7 (1-24)x4", 1, 24, 3, 0);
    }

    private static void cycleCloses() {
        theCycle(6, "1=1 9 2 loop", 0, 3, 2, 1);
        theCycle(6, "1=2 9 1 loop", 0, 3, 2, 1);
        theCycle(6, "1=1 9 1 loop", 0, 3, 2, 1);
        theCycle(6, "1=1 9 3 loop", 0, 3, 2, 0);
        theCycle(6, "1=3 9 1 loop", 0, 3, 2, 0);
        theCycle(6, "1=blank 9 1 loop", 0, 3, 2, 0);
        theCycle(6, "1=1 9 blank loop", 0, 3, 2, 0);
        theCycle(6, "1=blank 9 blank loop", 0, 3, 2, 0);
        theCycle(6, "1=1 blank 2 loop", 0, 3, 2, 1);
        theCycle(4, "1=98 99 loop", 0, 2, 2, 1);
        theCycle(4, "1=1 99 loop", 0, 2, 2, 0);
        // By the begin of the cycle, not by that of the layer.
        theCycle(7, "1=9 (1 5 2)x2", 1, 3, 2, 1);
        theCycle(7, "1=2 (1 5 9)x2", 1, 3, 2, 0);
    }

    private static void cycleAfterActs() {
        CelSheet x = Edge.line(6, "1=1 2 loop");
        x.expose(0, 5, 5, 9);
        due("broken in the last frame", x.cycle(0, 0), NONE);
        x.undo();
        due("as it was", x.cycle(0, 0), 0);
        x.expose(0, 0, 0, 9);
        due("broken in the first frame", x.cycle(0, 0), 1);
        due("rounds then", x.cycle(0, 2), 2);
        x.expose(0, 0, 5, 4);
        due("all alike", x.cycle(0, 1), NONE);
    }

    // ---- promise 16

    private static void theMarks(int want, int frames, String line) {
        due("marks of " + frames + ": " + line, Edge.line(frames, line).marks(0), want);
    }

    private static void marksOfFull() {
        Edge.refused("marks", Edge.NO_SCENE, CelSheet::marks, NONE, Edge.MIN, -1, 0, 1, Edge.MAX);
        Edge.range("marks", Edge.LEAST, CelSheet::marks, NONE, 0, 1, 0, 1);
        Edge.range("marks", BLANK, CelSheet::marks, NONE, 0, 1, 0, 1);
        Edge.range("marks", Edge.FULL, CelSheet::marks, NONE, 0, 2, 5, 2);
        Edge.row("marks", Edge.FULL, CelSheet::marks, -1, NONE, 2, 2, 3, 1, 4, 2, NONE);
    }

    private static void marksOfRuns() {
        theMarks(1, 4, "1=5");
        theMarks(1, 4, "1=blank");
        theMarks(2, 2, "1=1 9");
        theMarks(2, 2, "1=1 2");
        theMarks(2, 2, "1=2 1");
        theMarks(2, 3, "1=1-3");
        theMarks(2, 3, "1=3-1");
        theMarks(2, 6, "2=1-3");
        theMarks(2, 96, "1=1-96");
        theMarks(2, 96, "1=99-4");
        theMarks(3, 3, "1=1 3 5");
        theMarks(3, 3, "1=5 3 1");
        theMarks(3, 3, "1=1 2 4");
        theMarks(3, 3, "1=3 2 4");
        // As long each.
        theMarks(3, 4, "1=1x2 2 3");
        theMarks(3, 4, "1=1 2x2 3");
        theMarks(3, 4, "1=1 2 3");
        theMarks(3, 4, "1=1-3 stop");
        // None of them blank: 0 1 2 and 2 1 0 are no runs.
        theMarks(3, 3, "1=blank 1 2");
        theMarks(3, 3, "1=2 1 blank");
        theMarks(3, 4, "1=blank 1-3");
        theMarks(3, 4, "1=3-1 blank");
        theMarks(3, 3, "1=1 blank 2");
        theMarks(4, 6, "1=1-3 11-13");
        theMarks(4, 7, "1=1-3 4-5x2");
        theMarks(5, 7, "1=1-3 9 5 9 5");
    }

    private static void marksOfRounds() {
        theMarks(3, 4, "1=1 5 1 5");
        theMarks(3, 6, "1=1 5 loop");
        theMarks(3, 3, "1=1 5 1");
        theMarks(4, 5, "1=1 5 1 5 1");
        theMarks(3, 96, "1=1 5 loop");
        theMarks(4, 95, "1=1 5 loop");
        theMarks(4, 6, "1=1 5 9 1 5 9");
        theMarks(4, 9, "1=1 5 9 loop");
        theMarks(3, 6, "1=1-3 loop");
        theMarks(5, 8, "1=1 5 9 20 loop");
        theMarks(3, 4, "1=1 blank 1 blank");
        theMarks(5, 6, "1=7 1 5 1 5 8");
        theMarks(4, 5, "1=7 1 5 1 5");
        // As many frames each.
        theMarks(3, 8, "2=1 5 1 5");
        theMarks(4, 5, "1=1 5 1 5x2");
        theMarks(4, 5, "1=1x2 5 1 5");
        theMarks(4, 6, "1=1 5 1x2 5x2");
        // A round within a round.
        theMarks(5, 10, "1=((1 5)x2 9)x2");
        theMarks(5, 20, "1=((1-3)x3 9)x2");
    }

    private static void marksOfSwings() {
        theMarks(3, 4, "1=1 2 3 2");
        theMarks(4, 4, "1=1 5 9 5");
        theMarks(5, 6, "1=1 5 9 20 9 5");
        theMarks(6, 7, "1=1 5 9 20 9 5 1");
        theMarks(5, 5, "1=1 5 9 20 9");
        theMarks(6, 8, "1=1 5 9 20 30 20 9 5");
        theMarks(3, 10, "1=swing(1-6)");
        theMarks(3, 96, "1=swing(1-49)");
        theMarks(4, 96, "1=swing(1-5)loop");
        theMarks(6, 12, "1=swing(1 5 9 20)x2");
        theMarks(5, 8, "1=swing((1 5)x2 9)");
        theMarks(5, 6, "1=1 blank 9 20 9 blank");
        // As many frames each, there and back; only those in the middle and at the begin come once.
        theMarks(5, 12, "2=1 5 9 20 9 5");
        theMarks(6, 7, "1=1 5 9 20 9 5x2");
        theMarks(5, 8, "1=1x2 5 9 20x2 9 5");
        theMarks(6, 7, "1=1 5 9x2 20 9 5");
        theMarks(6, 6, "1=1 5 9 20 5 9");
    }

    private static void marksOfMany() {
        // All unlike and none a run: 1 3 5 .. 99 and 2 4 .. 92 as one exposure each.
        CelSheet x = Due.sheet("frames 96;layer a on 1=1;");
        for (int f = 0; f < 96; f++) {
            x.expose(0, f, f, f < 50 ? 2 * f + 1 : 2 * (f - 49));
        }
        due("exposures", x.layer(0, 2), 96);
        due("marks of 96 unlike ones", x.marks(0), 96);
        x.expose(0, 95, 95, 90);
        due("marks with the last one as that ahead", x.marks(0), 95);
        x.undo();
        due("marks as they were", x.marks(0), 96);
        x.turn(0, 50);
        due("marks of them turned", x.marks(0), 96);
        x.keep(0);
        x.twos(0);
        due("marks on twos", x.marks(0), 48);
        x.back(0);
        due("marks as they were kept", x.marks(0), 96);
        x.push(0, 0, 90);
        due("marks of the first six", x.marks(0), 6);
        x.pull(0, 1, 95);
        due("marks of one", x.marks(0), 1);
        Due.scene(x, Edge.LEAST);
        due("marks of another scene", x.marks(0), 1);
    }

    // ---- promises 17 and 18

    private static void shift() {
        for (int what = 0; what <= 1; what++) {
            int w = what;
            placesOf("shift", (x, n) -> x.shift(n, 0, w), (x, n) -> x.shift(0, n, w), NOTHING);
        }
        Edge.row("shift(0, 0, n)", Edge.LEAST, (x, n) -> x.shift(0, 0, n), -2, NOTHING, NOTHING, 0, 0, NOTHING, NOTHING);
        Edge.refused("shift(0, 0, n)", Edge.LEAST, (x, n) -> x.shift(0, 0, n), NOTHING, Edge.MIN, Edge.MAX);
        Edge.row("shift(0, 95, n)", Edge.MOVED, (x, n) -> x.shift(0, 95, n), -1, NOTHING, 5184, 5184, NOTHING);
        int[][] places = {{0, 0}, {0, 1}, {1, 0}, {1, 1}, {1, 94}, {1, 95}, {2, 0}, {2, 1}, {2, 46}, {2, 47}, {2, 48},
            {2, 49}, {2, 94}, {2, 95}, {3, 0}, {3, 95}, {4, 0}, {4, 95}, {5, 94}, {5, 95}};
        int[][] wants = {{54, 54}, {108, 108}, {-9, -9}, {-9, -9}, {-9, -9}, {-18, -18}, {0, 0}, {1, 0}, {46, 0}, {46, 2},
            {46, 4}, {47, 4}, {92, 4}, {92, 4}, {0, 0}, {0, 0}, {-9, -9}, {-864, -864}, {0, 0}, {0, 1}};
        for (int i = 0; i < places.length; i++) {
            int[] p = places[i];
            Edge.row("shift(" + p[0] + ", " + p[1] + ", n)", Edge.MOVED, (x, n) -> x.shift(p[0], p[1], n), 0, wants[i]);
        }
        // All twelve on one layer, as far as there are frames.
        String far = "frames 96;layer a on 1=1;" + Edge.many(12, "slide a from0to95left9down9;");
        due("the furthest to the left", Due.sheet(far).shift(0, 95, 0), -10368);
        due("the furthest down", Due.sheet(far).shift(0, 95, 1), 10368);
    }

    private static void shiftAdds() {
        String one = "frames 6;layer a on 1=1;slide a from 2 to 3 right 2 up 1;";
        Edge.row("shift(0, n, 0)", one, (x, n) -> x.shift(0, n, 0), -1, NOTHING, 0, 0, 2, 4, 4, 4, NOTHING);
        Edge.row("shift(0, n, 1)", one, (x, n) -> x.shift(0, n, 1), -1, NOTHING, 0, 0, -1, -2, -2, -2, NOTHING);
        String back = one + "slide a from 4 to 4 left 4 down 2;slide a from 3 to 5 right 0 down 9;";
        Edge.row("shift(0, n, 0)", back, (x, n) -> x.shift(0, n, 0), 0, 0, 0, 2, 4, 0, 0);
        Edge.row("shift(0, n, 1)", back, (x, n) -> x.shift(0, n, 1), 0, 0, 0, -1, 7, 18, 27);
        // Of this layer alone, and whatever the acts do.
        CelSheet x = Due.sheet("frames 3;layer a on 1=1 2 3;layer b on 1=1;slide b from 0 to 2 right 1 down 3;");
        x.turn(1, 1);
        x.push(1, 0, 1);
        x.raise(0);
        x.expose(1, 0, 2, 0);
        due("the other layer", x.shift(0, 2, 0), 0);
        due("its own to the right", x.shift(1, 2, 0), 3);
        due("its own down", x.shift(1, 2, 1), 9);
    }

    private static void hidden() {
        placesOf("hidden", (x, n) -> x.hidden(n, 0), (x, n) -> x.hidden(0, n), NONE);
        Edge.row("hidden(0, n)", Edge.LEAST, (x, n) -> x.hidden(0, n), -1, NONE, 0, NONE);
        Edge.row("hidden(0, n)", Edge.LEAST + "hide a from 0 to 0;", (x, n) -> x.hidden(0, n), -1, NONE, 1, NONE);
        Edge.row("hidden(n, 0)", Edge.MOVED, (x, n) -> x.hidden(n, 0), -1, NONE, 1, 1, 0, 0, 1, 0, NONE);
        Edge.row("hidden(n, 1)", Edge.MOVED, (x, n) -> x.hidden(n, 1), -1, NONE, 1, 0, 1, 0, 1, 1, NONE);
        Edge.row("hidden(n, 94)", Edge.MOVED, (x, n) -> x.hidden(n, 94), -1, NONE, 1, 0, 1, 1, 1, 1, NONE);
        Edge.row("hidden(n, 95)", Edge.MOVED, (x, n) -> x.hidden(n, 95), -1, NONE, 1, 1, 0, 1, 0, 1, NONE);
        Edge.row("hidden(3, n)", Edge.MOVED, (x, n) -> x.hidden(3, n), 2, 0, 0, 1, 1, 1, 0, 0);
        Edge.row("hidden(3, n)", Edge.MOVED, (x, n) -> x.hidden(3, n), 88, 0, 0, 1, 1);
        Edge.row("hidden(2, n)", Edge.MOVED, (x, n) -> x.hidden(2, n), 9, 1, 1, 1);
        Edge.row("hidden(2, n)", Edge.MOVED, (x, n) -> x.hidden(2, n), 19, 1, 1, 1);
        // A layer that is hidden has its drawings; acts leave it hidden.
        CelSheet x = Due.sheet("frames 3;layer a on 1=1 2 3;layer b on 1=1;hide a from 1 to 1;");
        x.turn(0, 1);
        x.push(0, 0, 1);
        x.raise(0);
        due("hidden ahead", x.hidden(0, 0), 0);
        due("hidden there", x.hidden(0, 1), 1);
        due("hidden behind", x.hidden(0, 2), 0);
        due("the other layer", x.hidden(1, 1), 0);
        due("its drawing", x.at(0, 1), 2);
    }

    /** Nothing of the scenes ahead is left in a later one, however many there were. */
    private static void sceneBehindScenes() {
        StringBuilder b = new StringBuilder("frames 96;");
        for (char name = 'a'; name <= 'f'; name++) {
            b.append("layer ").append(name).append(" on 1=9 stop;");
        }
        String plain = b.toString();
        String[][] before = {{Edge.MOVED}, {Edge.FULL}, {Edge.MOVED, Edge.MOVED}, {Edge.MOVED, Edge.FULL}, {Edge.FULL, Edge.MOVED},
            {Edge.MOVED, Edge.LEAST}, {Edge.FULL, Edge.LEAST}, {Edge.MOVED, Edge.FULL, Edge.MOVED}, {Edge.FULL, Edge.FULL, Edge.LEAST},
            {Edge.MOVED + "?", Edge.FULL + "?"}, {Edge.LEAST, Edge.MOVED + "?"}, {Edge.LEAST, Edge.FULL + "?", Edge.LEAST}};
        for (String[] scenes : before) {
            CelSheet x = new CelSheet();
            for (String scene : scenes) {
                Due.scene(x, scene);
            }
            due("plain scene", Due.scene(x, plain), 7);
            for (int what = 0; what <= 6; what++) {
                due("look(" + what + ")", x.look(what), what == 0 ? 96 : what == 1 ? 6 : 0);
            }
            for (int layer = 0; layer < 6; layer++) {
                plainLayer(x, layer);
            }
            due("takes", x.take(NONE), 1);
            due("ink", x.ink(0, 0), 96);
            due("box", x.box(0, 0), NONE);
            // As many of each can be told as in a new object.
            due("full scene", Due.scene(x, Edge.FULL), 49);
            due("moved scene", Due.scene(x, Edge.MOVED), 31);
            due("slides", x.look(3), 12);
            due("hides", x.look(4), 12);
            due("shift", x.shift(0, 95, 0), 5184);
        }
    }

    private static void plainLayer(CelSheet x, int layer) {
        int[] wants = {1, layer, 2, 1, 1, 0, 9};
        for (int what = 0; what <= 6; what++) {
            due("layer(" + layer + ", " + what + ")", x.layer(layer, what), wants[what]);
        }
        due("letters", x.spelt(layer, NONE), 1);
        for (int f : new int[] {0, 1, 50, 95}) {
            due("at", x.at(layer, f), f == 0 ? 9 : 0);
            due("told", x.told(layer, f), f == 0 ? 9 : 0);
            due("shift right", x.shift(layer, f, 0), 0);
            due("shift down", x.shift(layer, f, 1), 0);
            due("hidden", x.hidden(layer, f), 0);
        }
        due("marks", x.marks(layer), 2);
    }
}

/**
 * Runs in which promises meet, worked out by hand: scenes told again or refused behind acts; acts, undo,
 * keep and back one behind the other. Behind each call the sheet, the stack, the frames as they are
 * composed, takes, what is saved, marks and cycles are asked, on the same object.
 */
public final class MeetTest {
    // Boxes lie on places (0, 0) and (1, 0) alone: two signs tell a frame.
    private static final String SCENE = "frames 8;layer a on 1=(1 2)x4;layer b on 2=1-4;"
            + "cel a 1 at 0 0 size 2 1 ink 1;cel a 2 at 0 0 size 1 1 ink 1;"
            + "cel b 1 at 1 0 size 1 1 ink 2;cel b 3 at 0 0 size 2 1 ink 3;hide b from 6 to 7;";
    private static final int STATEMENTS = 8;
    private static final String SMALL = "frames 4;layer z on 1=1 blank 1 blank;cel z 1 at 0 0 size 1 1 ink 9;";

    private static final String NO_CYCLE = "-1 -1 -1 -1";

    private static final Stand TOLD = new Stand("12121212", "11223344", "12 12 11 10 33 33 11 10")
            .saved(4, 6, 7).marks(3, 2).cycles("0 2 4 1", NO_CYCLE).still(2, 0);
    /** As told, but a lies above b. */
    private static final Stand RAISED = new Stand("12121212", "11223344", "11 12 11 10 11 13 11 10").raised()
            .saved(4, 6, 7).marks(3, 2).cycles("0 2 4 1", NO_CYCLE).still(1, 0);
    /** Then frames 2 to 5 of b are blank. */
    private static final Stand GAP = new Stand("12121212", "11000044", "11 12 11 10 11 10 11 10").raised()
            .saved(2, 6, 5).marks(3, 3).cycles("0 2 4 1", NO_CYCLE).still(1, 0);
    /** Then a is turned by one, instead. */
    private static final Stand TURNED = new Stand("21212121", "11223344", "12 11 10 11 13 11 10 11").raised()
            .saved(4, 6, 7).marks(3, 2).cycles("0 2 4 1", NO_CYCLE).still(1, 0);
    /** Then a is on twos, instead. */
    private static final Stand TWOS = new Stand("11111111", "11223344", "11 11 11 11 11 11 11 11").raised()
            .saved(11, 0, 2).marks(1, 2).cycles(NO_CYCLE, NO_CYCLE).still(8, 0);
    /** Then two frames more of 1 come ahead of b. */
    private static final Stand PUSHED = new Stand("11111111", "11112233", "11 11 11 11 11 11 11 11").raised()
            .saved(12, 0, 0).marks(1, 3).cycles(NO_CYCLE, NO_CYCLE).still(8, 0);
    /** Then all frames of a are taken out. */
    private static final Stand PULLED = new Stand("00000000", "11112233", "02 02 02 02 00 00 00 00").raised()
            .saved(5, 0, 0).marks(1, 3).cycles(NO_CYCLE, NO_CYCLE).still(4, 0);
    /** Then b goes round: 1 9 1 9 from frame 4 on. */
    private static final Stand ROUND = new Stand("00000000", "11111919", "02 02 02 02 02 00 00 00").raised()
            .saved(4, 2, 0).marks(1, 4).cycles(NO_CYCLE, "4 2 2 0").still(5, 0);

    /** What stands behind a call. */
    private static final class Stand {
        private final String rowA;
        private final String rowB;
        private final String[] frames;
        private int placeOfA = 0;
        private int[] saved;
        private int[] marks;
        private String[] cycles;
        private int still;
        private int stillFrom;

        Stand(String rowA, String rowB, String frames) {
            this.rowA = rowA;
            this.rowB = rowB;
            this.frames = frames.split(" ");
        }

        Stand raised() {
            placeOfA = 1;
            return this;
        }

        /** SAVED 1 to 3: SAVED 0 follows from the frames. */
        Stand saved(int... many) {
            saved = many;
            return this;
        }

        Stand marks(int... many) {
            marks = many;
            return this;
        }

        Stand cycles(String... each) {
            cycles = each;
            return this;
        }

        Stand still(int many, int from) {
            still = many;
            stillFrom = from;
            return this;
        }

        void check(CelSheet x, String step, int acts) {
            due(step, "look(5)", x.look(5), acts);
            due(step, "place of a", x.layer(0, 1), placeOfA);
            due(step, "place of b", x.layer(1, 1), 1 - placeOfA);
            int takes = 0;
            for (int f = 0; f < 8; f++) {
                due(step, "at(0, " + f + ")", x.at(0, f), rowA.charAt(f) - '0');
                due(step, "at(1, " + f + ")", x.at(1, f), rowB.charAt(f) - '0');
                due(step, "cell(" + f + ", 0, 0)", x.cell(f, 0, 0), frames[f].charAt(0) - '0');
                due(step, "cell(" + f + ", 1, 0)", x.cell(f, 1, 0), frames[f].charAt(1) - '0');
                int first = first(f);
                due(step, "like(" + f + ", 0)", x.like(f, 0), first);
                if (first == f) {
                    due(step, "take(" + takes + ")", x.take(takes), f);
                    takes++;
                }
            }
            due(step, "take(-1)", x.take(CelSheet.NONE), takes);
            due(step, "take of none", x.take(takes), CelSheet.NONE);
            due(step, "saved(0)", x.saved(0), 8 - takes);
            for (int what = 1; what <= 3; what++) {
                due(step, "saved(" + what + ")", x.saved(what), saved[what - 1]);
            }
            due(step, "still(0)", x.still(0), still);
            due(step, "still(1)", x.still(1), stillFrom);
            for (int layer = 0; layer <= 1; layer++) {
                due(step, "marks(" + layer + ")", x.marks(layer), marks[layer]);
                String[] cycle = cycles[layer].split(" ");
                for (int what = 0; what <= 3; what++) {
                    due(step, "cycle(" + layer + ", " + what + ")", x.cycle(layer, what), Integer.parseInt(cycle[what]));
                }
            }
        }

        private int first(int frame) {
            int first = 0;
            while (!frames[first].equals(frames[frame])) {
                first++;
            }
            return first;
        }
    }

    private MeetTest() {
    }

    public static void main(String[] args) {
        actsAndUndo();
        actsAndBack();
        cycleAndUndo();
        undoneToTheFirst();
        backAmongActs();
        refusedBehindActs();
        toldAgain();
        anotherScene();
        Due.end("MeetTest");
    }

    private static void due(String step, String what, int got, int want) {
        Due.due(step + ": " + what, got, want);
    }

    /** Raised, with the stack kept as 0. */
    private static CelSheet raised() {
        CelSheet x = Due.sheet(SCENE);
        x.raise(0);
        x.keep(0);
        return x;
    }

    private static CelSheet pulled() {
        CelSheet x = raised();
        x.twos(0);
        x.push(1, 0, 2);
        x.pull(0, 0, 8);
        return x;
    }

    private static void actsAndUndo() {
        CelSheet x = new CelSheet();
        due("told", "scene()", Due.scene(x, SCENE), STATEMENTS);
        TOLD.check(x, "told", 0);
        due("raised", "raise(0)", x.raise(0), 1);
        RAISED.check(x, "raised", 1);
        due("a gap", "expose(1, 2, 5, 0)", x.expose(1, 2, 5, 0), 4);
        GAP.check(x, "a gap", 2);
        due("undone", "undo()", x.undo(), 1);
        RAISED.check(x, "undone", 1);
        due("turned", "turn(0, 1)", x.turn(0, 1), 8);
        TURNED.check(x, "turned", 2);
        due("undone", "undo()", x.undo(), 1);
        due("undone again", "undo()", x.undo(), 0);
        TOLD.check(x, "undone again", 0);
        due("undone again", "undo no more", x.undo(), -3);
    }

    private static void actsAndBack() {
        CelSheet x = raised();
        RAISED.check(x, "kept", 1);
        due("kept", "apart(0)", x.apart(0), 0);
        due("turned", "turn(0, 1)", x.turn(0, 1), 8);
        TURNED.check(x, "turned", 2);
        due("turned", "apart(0)", x.apart(0), 8);
        due("back", "back(0)", x.back(0), 8);
        RAISED.check(x, "back", 0);
        due("back", "apart(0)", x.apart(0), 0);
        due("back", "undo()", x.undo(), -3);
        due("on twos", "twos(0)", x.twos(0), 4);
        TWOS.check(x, "on twos", 1);
        due("on twos", "apart(0)", x.apart(0), 4);
        due("pushed", "push(1, 0, 2)", x.push(1, 0, 2), 2);
        PUSHED.check(x, "pushed", 2);
        due("pushed", "apart(0)", x.apart(0), 10);
        due("pulled", "pull(0, 0, 8)", x.pull(0, 0, 8), 8);
        PULLED.check(x, "pulled", 3);
        due("pulled", "apart(0)", x.apart(0), 14);
    }

    private static void cycleAndUndo() {
        CelSheet x = pulled();
        due("a round", "expose(1, 4, 4, 1)", x.expose(1, 4, 4, 1), 1);
        due("a round", "expose(1, 5, 5, 9)", x.expose(1, 5, 5, 9), 1);
        due("a round", "expose(1, 6, 6, 1)", x.expose(1, 6, 6, 1), 1);
        due("a round", "expose(1, 7, 7, 9)", x.expose(1, 7, 7, 9), 1);
        ROUND.check(x, "a round", 8);
        for (int n = 7; n >= 4; n--) {
            due("a round undone", "undo()", x.undo(), n);
        }
        PULLED.check(x, "a round undone", 4);
    }

    private static void undoneToTheFirst() {
        CelSheet x = pulled();
        PULLED.check(x, "pulled", 4);
        due("pull undone", "undo()", x.undo(), 3);
        PUSHED.check(x, "pull undone", 3);
        due("push undone", "undo()", x.undo(), 2);
        TWOS.check(x, "push undone", 2);
        due("twos undone", "undo()", x.undo(), 1);
        RAISED.check(x, "twos undone", 1);
        due("raise undone", "undo()", x.undo(), 0);
        TOLD.check(x, "raise undone", 0);
        due("raise undone", "what is kept has the same drawings", x.apart(0), 0);
        due("back to the stack", "back(0)", x.back(0), 8);
        RAISED.check(x, "back to the stack", 0);
    }

    private static void backAmongActs() {
        CelSheet x = pulled();
        due("both kept", "keep(1)", x.keep(1), 8);
        due("both kept", "apart(1)", x.apart(1), 0);
        due("both kept", "undo()", x.undo(), 3);
        PUSHED.check(x, "undo behind keep", 3);
        due("undo behind keep", "apart(0)", x.apart(0), 10);
        due("undo behind keep", "apart(1)", x.apart(1), 8);
        due("back(1)", "back(1)", x.back(1), 8);
        PULLED.check(x, "back(1)", 0);
        due("back(1)", "apart(0)", x.apart(0), 14);
        due("back(0)", "back(0)", x.back(0), 8);
        RAISED.check(x, "back(0)", 0);
        due("back(0)", "apart(1)", x.apart(1), 14);
        due("lowered", "raise(1)", x.raise(1), 1);
        TOLD.check(x, "lowered", 1);
        due("lowered", "apart(0)", x.apart(0), 0);
        due("undone", "undo()", x.undo(), 0);
        RAISED.check(x, "undone", 0);
        due("kept anew", "back(1)", x.back(1), 8);
        due("kept anew", "keep(0)", x.keep(0), 8);
        due("kept anew", "apart(0)", x.apart(0), 0);
        PULLED.check(x, "kept anew", 0);
    }

    private static void refusedBehindActs() {
        CelSheet x = raised();
        x.turn(0, 1);
        TURNED.check(x, "turned", 2);
        // A sound scene but for its last sign, and one that has another layer's name.
        due("refused", "scene()", Due.scene(x, SMALL + "="), CelSheet.NONE);
        due("refused", "fault(0)", x.fault(0), 1);
        due("refused", "fault(1)", x.fault(1), SMALL.length());
        TURNED.check(x, "refused", 2);
        due("refused", "told(0, 0)", x.told(0, 0), 1);
        due("refused", "box(3, 6)", x.box(3, 6), 3);
        due("refused", "spelt(1, 0)", x.spelt(1, 0), 'b');
        due("refused", "apart(0)", x.apart(0), 8);
        Due.tell(x, "z");
        due("refused", "named() of the refused one", x.named(), CelSheet.NONE);
        due("refused", "undo()", x.undo(), 1);
        RAISED.check(x, "undone behind a fault", 1);
        due("refused again", "scene()", Due.scene(x, SMALL + "hide a from 0 to 0;"), CelSheet.NONE);
        due("refused again", "fault(0)", x.fault(0), 3);
        due("refused again", "fault(1)", x.fault(1), SMALL.length() + 5);
        due("on twos", "twos(0)", x.twos(0), 4);
        TWOS.check(x, "on twos behind a fault", 2);
        due("back", "back(0)", x.back(0), 8);
        RAISED.check(x, "back behind a fault", 0);
        Due.tell(x, " b");
        due("back", "named()", x.named(), 1);
        due("back", "fault(0) stays", x.fault(0), 3);
    }

    private static void toldAgain() {
        CelSheet x = pulled();
        x.keep(1);
        PULLED.check(x, "pulled", 4);
        due("told again", "scene()", Due.scene(x, SCENE), STATEMENTS);
        TOLD.check(x, "told again", 0);
        due("told again", "undo()", x.undo(), -3);
        for (int k = 0; k <= 1; k++) {
            due("told again", "apart(" + k + ")", x.apart(k), -3);
            due("told again", "back(" + k + ")", x.back(k), -3);
        }
        due("raised", "raise(0)", x.raise(0), 1);
        RAISED.check(x, "raised in the new one", 1);
        due("raised", "keep(1)", x.keep(1), 8);
        due("raised", "undo()", x.undo(), 0);
        TOLD.check(x, "undone in the new one", 0);
        due("back", "back(1)", x.back(1), 8);
        RAISED.check(x, "back in the new one", 0);
    }

    /** A scene with fewer frames and layers, and the first one again behind it. */
    private static void anotherScene() {
        CelSheet x = pulled();
        due("a small one", "scene()", Due.scene(x, SMALL), 3);
        int[] look = {4, 1, 1, 0, 0, 0, 0};
        for (int what = 0; what < look.length; what++) {
            due("a small one", "look(" + what + ")", x.look(what), look[what]);
        }
        Due.row(x, 0, 1, 0, 1, 0);
        due("a small one", "place", x.layer(0, 1), 0);
        due("a small one", "at(1, 0)", x.at(1, 0), CelSheet.NONE);
        due("a small one", "hidden(0, 3)", x.hidden(0, 3), 0);
        due("a small one", "cell(2, 0, 0)", x.cell(2, 0, 0), 9);
        due("a small one", "cell(1, 0, 0)", x.cell(1, 0, 0), 0);
        due("a small one", "cell(2, 1, 0)", x.cell(2, 1, 0), 0);
        due("a small one", "take(-1)", x.take(CelSheet.NONE), 2);
        due("a small one", "marks(0)", x.marks(0), 3);
        due("a small one", "marks(1)", x.marks(1), CelSheet.NONE);
        due("a small one", "cycle(0, 1)", x.cycle(0, 1), 2);
        due("a small one", "cycle(0, 3)", x.cycle(0, 3), 0);
        due("a small one", "saved(0)", x.saved(0), 2);
        due("a small one", "saved(1)", x.saved(1), 0);
        due("a small one", "saved(2)", x.saved(2), 1);
        due("a small one", "saved(3)", x.saved(3), 1);
        due("a small one", "raise(0)", x.raise(0), -3);
        due("a small one", "undo()", x.undo(), -3);
        due("a small one", "back(0)", x.back(0), -3);
        due("a small one", "turn(0, 1)", x.turn(0, 1), 4);
        due("a small one", "take(0)", x.take(0), 0);
        due("a small one", "cell(0, 0, 0)", x.cell(0, 0, 0), 0);
        due("the first again", "scene()", Due.scene(x, SCENE), STATEMENTS);
        TOLD.check(x, "the first again", 0);
        due("the first again", "back(0)", x.back(0), -3);
    }
}

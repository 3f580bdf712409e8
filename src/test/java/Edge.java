/** What the tests of edges share: the least scene, full ones, and arguments at their last right value. */
final class Edge {
    static final int NONE = CelSheet.NONE;
    static final int NOTHING = CelSheet.NOTHING;
    static final int MIN = Integer.MIN_VALUE;
    static final int MAX = Integer.MAX_VALUE;

    /** No scene at all, where a scene is asked for. */
    static final String NO_SCENE = null;

    static final String LEAST = "frames 1;layer a on 1=1;";

    /**
     * 96 frames, 6 layers, 40 boxes. Ink is seen in two frames alone: in 0 that of layer 0 at (0, 0),
     * in 95 that of layer 5 at (11, 7).
     */
    static final String FULL = "frames96;layer a on1=1-96;layer b on24=1-4;layer c on1=(1 3)x48;"
            + "layer d on1=blank;layer e on2=swing(1-3)loop;layer abcdef on1=4-99;"
            + many(39, "cel a1at0 0size1 1ink1;") + "cel abcdef99at11 7size12 8ink9;"
            + "slide e from0to95right9down9;hide d from0to95;";

    /** 96 frames, 6 layers, 12 slides, 12 hides. */
    static final String MOVED = "frames96;layer a on1=1;layer b on1=1;layer c on1=1;layer d on1=1;"
            + "layer e on1=1;layer f on1=1;" + many(6, "slide a from0to95right9down9;")
            + "slide b from0to0left9up9;slide b from95to95left9up9;slide c from1to94right1up0;"
            + "slide c from47to48left1down2;slide e from0to95left9up9;slide f from95to95right0down1;"
            + "hide a from0to95;hide b from0to0;hide b from95to95;hide c from1to94;hide c from10to20;"
            + "hide d from5to5;hide d from6to6;hide d from4to6;hide d from90to95;hide d from95to95;"
            + "hide e from0to94;hide f from1to95;";

    interface Ask {
        int of(CelSheet x, int n);
    }

    private Edge() {
    }

    static String many(int n, String text) {
        return text.repeat(n);
    }

    static CelSheet object(String scene) {
        return scene == NO_SCENE ? new CelSheet() : Due.sheet(scene);
    }

    static CelSheet line(int frames, String line) {
        return Due.sheet("frames " + frames + ";layer a on " + line + ";");
    }

    static void due(String what, long got, long want) {
        Due.due(what, got, want);
    }

    /**
     * What a call answers to the last right arguments on either side, and that it refuses the first
     * wrong ones and those far out; each on an object of its own, so that acts can be asked, too.
     */
    static void range(String what, String scene, Ask ask, int refusal, int low, int atLow, int high, int atHigh) {
        due(what + " of " + low, ask.of(object(scene), low), atLow);
        due(what + " of " + high, ask.of(object(scene), high), atHigh);
        refused(what, scene, ask, refusal, low - 1, high + 1, MIN, MAX);
    }

    static void refused(String what, String scene, Ask ask, int refusal, int... wrong) {
        for (int n : wrong) {
            due(what + " of " + n, ask.of(object(scene), n), refusal);
        }
    }

    /** The right answers from an argument on. */
    static void row(String what, String scene, Ask ask, int from, int... wants) {
        CelSheet x = object(scene);
        for (int i = 0; i < wants.length; i++) {
            due(what + " of " + (from + i), ask.of(x, from + i), wants[i]);
        }
    }

    /** All drawings of a layer as one text, to hold two states against each other. */
    static String drawings(CelSheet x, int layer) {
        StringBuilder b = new StringBuilder();
        int frames = x.look(0);
        for (int f = 0; f < frames; f++) {
            b.append(x.at(layer, f)).append(' ');
        }
        return b.toString();
    }

    static void alike(String what, String got, String want) {
        due(what + ": " + got + " and " + want, got.equals(want) ? 1 : 0, 1);
    }
}

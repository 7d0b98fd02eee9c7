/** Promises 13 to 19: strokes, the plan, its commands and their numbers. */
public final class PlanTest {
    public static void main(String[] args) {
        strokes();
        strokesOfSupports();
        order();
        ties();
        nearerEnd();
        kindsInOrder();
        reach();
        headOverLayers();
        pauses();
        amounts();
        madeAnew();
        mostStrokes();
        planAllowed();
        commandsOfBar();
        Check.end();
    }

    private static SliceWright bar() {
        SliceWright s = new SliceWright();
        s.box(0, 0, 0, 5, 1, 2, true);
        s.plan();
        return s;
    }

    /** All commands as a text: kinds, places, amounts and layers. */
    static String text(SliceWright s) {
        StringBuilder text = new StringBuilder();
        for (int command = 0; command < s.commands(); command++) {
            char kind = s.commandAt(command);
            text.append(command == 0 ? "" : " ").append(kind);
            if (kind == 'z') {
                text.append(s.numberAt(command, 'z'));
            }
            if (kind == 'g' || kind == 'd') {
                text.append(s.numberAt(command, 'x')).append(',').append(s.numberAt(command, 'y'));
            }
            if (kind == 'd') {
                text.append('=').append(s.numberAt(command, 'a'));
            }
        }
        return text.toString();
    }

    private static void strokes() {
        SliceWright s = new SliceWright();
        s.box(0, 0, 0, 12, 12, 12, true);
        Check.same("walls and bottoms", s.strokes(0), 22 + 10);
        Check.same("lines along y", s.strokes(1), 22 + 3);
        Check.same("lines along x", s.strokes(2), 22 + 3);
        Check.same("walls and tops", s.strokes(11), 22 + 10);
        s.setPattern('g');
        Check.same("grid", s.strokes(2), 22 + 3 + 7 * 3);
        s.box(0, 0, 0, 12, 12, 12, false);
        s.box(3, 2, 4, 4, 1, 2, true);
        Check.same("a bar along x", s.strokes(4), 1);
        Check.same("a bar across y", s.strokes(5), 4);
        s.box(3, 2, 4, 1, 4, 2, true);
        Check.same("a hook along x", s.strokes(4), 4);
        Check.same("a hook along y", s.strokes(5), 4);
        s.box(5, 2, 4, 1, 1, 1, false);
        Check.same("a gap in it", s.strokes(4), 5);
    }

    private static void strokesOfSupports() {
        SliceWright s = new SliceWright();
        s.box(2, 2, 3, 3, 3, 1, true);
        Check.same("no supports", s.strokes(2), 0);
        s.set('s', 1);
        Check.same("supports", s.strokes(2), 3);
        s.box(3, 3, 2, 1, 1, 1, true);
        Check.same("held in the middle: corners alone hang", s.strokes(2), 4 + 1);
        s.set('g', 1);
        Check.same("the gap", s.strokes(2), 1);
        Check.same("below the gap", s.strokes(1), 4);
    }

    private static void order() {
        SliceWright s = new SliceWright();
        s.set('k', 0);
        s.box(0, 0, 0, 2, 1, 1, true);
        s.box(6, 0, 0, 3, 1, 1, true);
        s.box(3, 1, 0, 2, 1, 1, true);
        Check.same("plan", s.plan(), 6);
        Check.same("nearest first", text(s), "z0 d1,0=20 g3,1 d4,1=20 g6,0 d8,0=30");
        Check.same("travel", s.travel(), 3 + 3);
        Check.same("planned", s.planned(), 70L);
        Check.same("commands", s.commands(), 6);
    }

    private static void ties() {
        SliceWright s = new SliceWright();
        s.box(2, 0, 0, 1, 1, 1, true);
        s.box(0, 2, 0, 1, 1, 1, true);
        s.plan();
        Check.same("the lower number, along x", text(s), "z0 g2,0 d2,0=10 g0,2 d0,2=10");
        s = new SliceWright();
        s.box(2, 0, 1, 1, 1, 1, true);
        s.box(0, 2, 1, 1, 1, 1, true);
        s.plan();
        Check.same("the lower number, along y", text(s), "z1 g0,2 d0,2=10 g2,0 d2,0=10");
        s = new SliceWright();
        s.box(0, 0, 0, 3, 1, 1, true);
        s.box(0, 2, 0, 5, 1, 1, true);
        s.plan();
        Check.same("the first cell, if both are as near", text(s), "z0 d2,0=30 g0,2 d4,2=50");
    }

    private static void nearerEnd() {
        SliceWright s = new SliceWright();
        s.box(0, 0, 0, 4, 3, 1, true);
        s.set('w', 3);
        s.plan();
        Check.same("to and fro along x", text(s), "z0 d3,0=40 g3,1 d0,1=40 g0,2 d3,2=40");
        s = new SliceWright();
        s.box(0, 0, 1, 3, 4, 1, true);
        s.set('w', 3);
        s.plan();
        Check.same("to and fro along y", text(s), "z1 d0,3=40 g1,3 d1,0=40 g2,0 d2,3=40");
    }

    private static void kindsInOrder() {
        SliceWright s = new SliceWright();
        s.box(0, 0, 0, 3, 3, 1, true);
        s.plan();
        Check.same("walls, then the bottom", text(s),
                "z0 d2,0=30 g2,1 d2,1=10 g2,2 d0,2=30 g0,1 d0,1=10 g1,1 d1,1=10");
        s = new SliceWright();
        s.box(5, 5, 1, 1, 1, 1, true);
        s.box(1, 0, 0, 1, 1, 1, true);
        s.set('s', 1);
        s.set('r', 22);
        s.plan();
        Check.same("supports last", text(s), "z0 g1,0 d1,0=10 g5,5 d5,5=10 z1 d5,5=10");
        s.box(1, 0, 0, 1, 1, 1, false);
        s.box(11, 11, 0, 1, 1, 1, true);
        s.plan();
        Check.same("supports last, although they are nearer", text(s),
                "z0 g11,11 d11,11=10 g5,5 d5,5=10 z1 d5,5=10");
    }

    private static void reach() {
        SliceWright s = new SliceWright();
        s.box(3, 2, 0, 1, 1, 1, true);
        s.set('r', 5);
        Check.same("within reach", s.plan(), 3);
        Check.same("within reach", text(s), "z0 g3,2 d3,2=10");
        s.set('r', 4);
        Check.same("beyond reach", s.plan(), 5);
        Check.same("beyond reach", text(s), "z0 r g3,2 u d3,2=10");
        Check.same("travel beyond reach", s.travel(), 5);
        s.box(0, 0, 0, 1, 1, 1, true);
        s.box(3, 2, 0, 1, 1, 1, false);
        s.set('r', 0);
        s.plan();
        Check.same("no way at all", text(s), "z0 d0,0=10");
        s.box(1, 0, 0, 1, 2, 1, true);
        s.plan();
        Check.same("no reach", text(s), "z0 d1,0=20 r g1,1 u d1,1=10");
    }

    private static void headOverLayers() {
        SliceWright s = new SliceWright();
        s.box(0, 0, 0, 5, 1, 1, true);
        s.box(4, 0, 5, 1, 3, 1, true);
        s.plan();
        Check.same("the head stays between layers", text(s), "z0 d4,0=50 z5 d4,2=30");
        s.box(4, 0, 5, 1, 1, 1, false);
        s.plan();
        Check.same("a way behind a layer", text(s), "z0 d4,0=50 z5 g4,1 d4,2=20");
    }

    private static void pauses() {
        SliceWright s = new SliceWright();
        s.box(0, 0, 0, 1, 1, 2, true);
        s.setPause(1, true);
        s.setPause(2, true);
        Check.same("a pause for a layer with a stroke", s.plan(), 5);
        Check.same("pauses", text(s), "z0 d0,0=10 z1 p d0,0=10");
        s.setPause(1, false);
        s.setPause(0, true);
        s.plan();
        Check.same("another pause", text(s), "z0 p d0,0=10 z1 d0,0=10");
    }

    private static void amounts() {
        SliceWright s = new SliceWright();
        s.box(0, 0, 0, 4, 1, 2, true);
        s.setThickness(0, 3);
        s.setThickness(1, 2);
        s.plan();
        Check.same("thicknesses", text(s), "z0 d3,0=120 z1 d3,0=20 g2,0 d2,0=20 g1,0 d1,0=20 g0,0 d0,0=20");
        Check.same("planned", s.planned(), 200L);
        Check.same("travel", s.travel(), 3);
    }

    private static void madeAnew() {
        SliceWright s = bar();
        String before = text(s);
        s.box(0, 3, 0, 5, 5, 5, true);
        s.set('w', 2);
        s.set('r', 0);
        s.setThickness(0, 3);
        s.setPause(0, true);
        Check.same("changes have no effect", text(s), before);
        Check.same("travel", s.travel(), 4);
        Check.same("planned", s.planned(), 100L);
        s.box(0, 0, 0, 12, 12, 12, false);
        Check.same("nothing is planned", s.plan(), 0);
        Check.same("no commands", s.commands(), 0);
        Check.same("no travel", s.travel(), 0);
        Check.same("nothing in all", s.planned(), 0L);
        s.box(0, 0, 1, 1, 1, 1, true);
        Check.same("planned again", s.plan(), 2);
        Check.same("planned again", text(s), "z1 d0,0=10");
    }

    /** A board of cells in each layer, far from one another: the most commands that are asked for here. */
    private static void mostStrokes() {
        SliceWright s = new SliceWright();
        for (int y = 0; y < 12; y++) {
            for (int x = 0; x < 6; x++) {
                s.box(2 * x + y % 2, y, 0, 1, 1, 12, true);
            }
        }
        s.set('r', 0);
        for (int z = 0; z < 12; z++) {
            Check.same("strokes of a board", s.strokes(z), 72);
            s.setPause(z, true);
        }
        int commands = s.plan();
        int head = 0;
        for (int command = 0; command < commands; command++) {
            head += s.commandAt(command) == 'd' ? 1 : 0;
        }
        Check.same("cells drawn", head, 12 * 72);
        Check.same("all of a board", s.planned(), 8640L);
    }

    private static void planAllowed() {
        SliceWright s = bar();
        s.fail();
        s.mend();
        Check.same("plan when mended", s.plan(), s.commands());
        s.print();
        s.pass(5);
        s.cut();
        Check.same("next behind a cut", s.next(), 1);
        Check.same("plan behind a cut", s.plan(), s.commands());
        Check.same("next behind a plan", s.next(), 0);
        Check.same("state behind a plan", s.state(), 'i');
    }

    private static void commandsOfBar() {
        SliceWright bar = bar();
        Check.same("the bar", text(bar), "z0 d4,0=50 z1 d4,0=10 g3,0 d3,0=10 g2,0 d2,0=10 g1,0 d1,0=10 g0,0 d0,0=10");
        Check.same("commands of the bar", bar.commands(), 12);
        oneOfEach();
    }

    private static void oneOfEach() {
        SliceWright s = new SliceWright();
        s.box(3, 3, 0, 1, 1, 1, true);
        s.setPause(0, true);
        s.plan();
        Check.same("one of each", text(s), "z0 p r g3,3 u d3,3=10");
        String[] there = {"z", "", "", "xy", "", "xya"};
        for (int command = 0; command < 6; command++) {
            for (char letter : "xyaz".toCharArray()) {
                if (there[command].indexOf(letter) >= 0) {
                    Check.same("numberAt(" + command + ", " + letter + ")", s.numberAt(command, letter),
                            letter == 'z' ? 0 : letter == 'a' ? 10 : 3);
                }
            }
        }
    }
}

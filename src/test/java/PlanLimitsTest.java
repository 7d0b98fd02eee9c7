/** Promises 13 to 19 and the terms strokes, plan and commands: nothing, one cell, all cells, ties, first and last. */
public final class PlanLimitsTest {
    public static void main(String[] args) {
        strokesOfNothing();
        strokesOfOneCell();
        strokesOfARow();
        strokesEndAtTheBorder();
        strokesOfOneKind();
        emptyCellsAreNoStroke();
        mostStrokes();
        strokesAsTheyAreNow();
        nothingToPlan();
        leastPlan();
        nothingAnyMore();
        firstAndLastLayer();
        layersWithNothing();
        layersWithSupportsAlone();
        pauseOfNothing();
        nearestBySum();
        nearestAmongKinds();
        tiesAlongX();
        tiesAlongY();
        tiesOfEnds();
        firstCellIfBothAreAsNear();
        tiesBetweenRowAndEnds();
        headBehindLayers();
        noWay();
        reachOfEachDistance();
        leastAndGreatestAmount();
        amountsOfAll();
        travelOfAll();
        firstAndLastCommand();
        numbersOfCommands();
        noEffectUntilPlanned();
        plannedFromStates();
        planLeavesTheMachine();
        mostCommands();
        Check.end();
    }

    private static SliceWright cells(int... places) {
        SliceWright s = new SliceWright();
        s.set('r', 22);
        for (int i = 0; i + 2 < places.length; i += 3) {
            s.box(places[i], places[i + 1], places[i + 2], 1, 1, 1, true);
        }
        return s;
    }

    private static SliceWright full() {
        SliceWright s = new SliceWright();
        s.box(0, 0, 0, 12, 12, 12, true);
        return s;
    }

    private static void plan(SliceWright s, String what, String want) {
        int commands = s.plan();
        Check.same(what, PlanTest.text(s), want);
        Check.same(what + ": commands", s.commands(), commands);
        Check.same(what + ": as many as told", commands, want.isEmpty() ? 0 : want.split(" ").length);
        Check.same(what + ": state", s.state(), 'i');
        Check.same(what + ": next", s.next(), 0);
    }

    // ---- strokes

    private static void strokesOfNothing() {
        Check.about("A stroke is a row of cells of a layer of the same kind, 'w', 'b', 't', 'i' or 's'");
        SliceWright s = new SliceWright();
        for (int z = 0; z < 12; z++) {
            Check.same("an empty layer", s.strokes(z), 0);
        }
        s.box(0, 0, 6, 12, 12, 1, true);
        for (int z = 0; z < 12; z++) {
            Check.same("the only layer is that of 6; layer " + z, s.strokes(z) > 0, z == 6);
        }
    }

    private static void strokesOfOneCell() {
        Check.about("Returns the number of strokes of a layer");
        for (int z = 0; z < 12; z++) {
            Check.same("the first cell of the layer " + z, cells(0, 0, z).strokes(z), 1);
            Check.same("the last cell of the layer " + z, cells(11, 11, z).strokes(z), 1);
        }
    }

    private static void strokesOfARow() {
        Check.about("as long as can be, along x in layers that can be halved, and along y in the others");
        for (int z = 0; z < 12; z++) {
            SliceWright s = new SliceWright();
            s.box(0, 11, z, 12, 1, 1, true);
            Check.same("a row along x, layer " + z, s.strokes(z), z % 2 == 0 ? 1 : 12);
            s = new SliceWright();
            s.box(11, 0, z, 1, 12, 1, true);
            Check.same("a row along y, layer " + z, s.strokes(z), z % 2 == 0 ? 12 : 1);
        }
    }

    private static void strokesEndAtTheBorder() {
        Check.about("as long as can be, along x in layers that can be halved, and along y in the others");
        SliceWright s = new SliceWright();
        s.box(10, 0, 4, 2, 1, 1, true);
        s.box(0, 1, 4, 2, 1, 1, true);
        Check.same("the end of a row and the begin of the next", s.strokes(4), 2);
        s = new SliceWright();
        s.box(0, 10, 5, 1, 2, 1, true);
        s.box(1, 0, 5, 1, 2, 1, true);
        Check.same("the end of a row and the begin of the next, along y", s.strokes(5), 2);
        s = new SliceWright();
        s.box(0, 11, 4, 12, 1, 1, true);
        s.box(0, 0, 6, 12, 1, 1, true);
        Check.same("the last row of a layer", s.strokes(4), 1);
        Check.same("the first row of another", s.strokes(6), 1);
    }

    private static void strokesOfOneKind() {
        Check.about("a row of cells of a layer of the same kind");
        SliceWright s = new SliceWright();
        s.box(0, 0, 0, 3, 3, 1, true);
        Check.same("walls and a bottom", s.strokes(0), 5);
        s.set('w', 2);
        Check.same("walls alone", s.strokes(0), 3);
        s = new SliceWright();
        s.set('s', 1);
        s.box(0, 0, 0, 6, 1, 1, true);
        s.box(6, 0, 2, 6, 1, 1, true);
        Check.same("a wall, then supports", s.strokes(0), 2);
        Check.same("supports, each a stroke along y", s.strokes(1), 6);
        s.box(0, 0, 2, 12, 1, 1, true);
        Check.same("a row of supports, each a stroke along y", s.strokes(1), 12);
    }

    private static void emptyCellsAreNoStroke() {
        Check.about("of the same kind, 'w', 'b', 't', 'i' or 's' ('e' and '.' are none)");
        SliceWright s = full();
        s.set('k', 0);
        s.set('d', 6);
        Check.same("one line", s.strokes(4), 22 + 1);
        s.set('w', 3);
        Check.same("one line within three walls", s.strokes(4), 6 + 12 + 1);
        Check.same("one line along y within three walls", s.strokes(5), 6 + 12 + 1);
        s.box(3, 6, 4, 6, 1, 1, false);
        s.set('w', 1);
        Check.same("a hole in the line", s.strokes(4), 1 + 4 * 2 + 3 + 6 + 3 + 3 * 2 + 1);
    }

    /** Cells and supports by turns, above which a whole layer hangs: each cell is a stroke. */
    private static SliceWright board(int z) {
        SliceWright s = new SliceWright();
        s.set('s', 1);
        for (int cell = 0; cell < 144; cell++) {
            if ((cell % 12 + cell / 12) % 2 == 0) {
                s.box(cell % 12, cell / 12, z, 1, 1, 1, true);
            }
        }
        s.box(0, 0, z + 2, 12, 12, 1, true);
        return s;
    }

    private static void mostStrokes() {
        Check.about("Returns the number of strokes of a layer (as many as cells)");
        Check.same("along x", board(0).strokes(0), 144);
        Check.same("along x, higher", board(8).strokes(8), 144);
        Check.same("along y", board(9).strokes(9), 144);
        Check.same("along y, lower", board(1).strokes(1), 144);
        SliceWright s = board(0);
        s.set('k', 0);
        Check.same("a layer of supports above them", s.strokes(1), 12);
        s.plan();
        Check.same("all of it", s.planned(), 1440L + 1440L + 10L * (44 + 30));
    }

    private static void strokesAsTheyAreNow() {
        Check.about("by the body and settings as they are now");
        SliceWright s = cells(0, 0, 0);
        s.plan();
        Check.same("planned", s.strokes(0), 1);
        s.box(0, 0, 0, 3, 3, 1, true);
        Check.same("not planned", s.strokes(0), 5);
        s.set('w', 3);
        Check.same("more walls", s.strokes(0), 3);
        s.box(0, 0, 0, 12, 12, 1, false);
        Check.same("taken", s.strokes(0), 0);
        Check.same("the commands are as they were", PlanTest.text(s), "z0 d0,0=10");
    }

    // ---- plan: nothing, one cell, layers

    private static void nothingToPlan() {
        Check.about("Returns the number of commands. (of an empty body: none)");
        SliceWright s = new SliceWright();
        Check.same("commands at first", s.commands(), 0);
        plan(s, "an empty body", "");
        Check.same("travel", s.travel(), 0);
        Check.same("planned", s.planned(), 0L);
        for (int z = 0; z < 12; z++) {
            s.setPause(z, true);
        }
        plan(s, "an empty body with pauses", "");
    }

    private static void leastPlan() {
        Check.about("For each layer with a stroke, there is 'z' with the layer; .. and then 'd'");
        SliceWright s = cells(0, 0, 0);
        plan(s, "one cell", "z0 d0,0=10");
        Check.same("travel", s.travel(), 0);
        Check.same("planned", s.planned(), 10L);
    }

    private static void nothingAnyMore() {
        Check.about("The commands are made anew by each planning");
        SliceWright s = full();
        s.plan();
        int before = s.commands();
        s.box(0, 0, 0, 12, 12, 12, false);
        Check.same("not planned anew", s.commands(), before);
        Check.same("the last one is there", s.commandAt(before - 1), 'd');
        plan(s, "all is taken", "");
        Check.same("travel", s.travel(), 0);
        Check.same("planned", s.planned(), 0L);
        Check.refuses("the first one is gone", IndexOutOfBoundsException.class, () -> s.commandAt(0));
        Check.refuses("the last one is gone", IndexOutOfBoundsException.class, () -> s.commandAt(before - 1));
        s.box(2, 0, 0, 1, 1, 1, true);
        plan(s, "one cell", "z0 g2,0 d2,0=10");
        plan(s, "one cell again", "z0 g2,0 d2,0=10");
    }

    private static void firstAndLastLayer() {
        Check.about("'z' with the layer");
        for (int z = 0; z < 12; z++) {
            SliceWright s = cells(0, 0, z);
            plan(s, "layer " + z, "z" + z + " d0,0=10");
            Check.same("the layer of 'z'", s.numberAt(0, 'z'), z);
        }
        plan(cells(0, 0, 0, 0, 0, 11), "the first and the last", "z0 d0,0=10 z11 d0,0=10");
    }

    private static void layersWithNothing() {
        Check.about("For each layer with a stroke, there is 'z'");
        SliceWright s = cells(0, 0, 1, 0, 0, 5, 0, 0, 10);
        for (int z = 0; z < 12; z++) {
            s.setThickness(z, 2);
        }
        plan(s, "three layers", "z1 d0,0=20 z5 d0,0=20 z10 d0,0=20");
    }

    private static void layersWithSupportsAlone() {
        Check.about("For each layer with a stroke, there is 'z' with the layer; then 'p' if a pause was told "
                + "for this layer");
        SliceWright s = cells(3, 0, 2);
        s.set('s', 1);
        s.setPause(0, true);
        plan(s, "supports alone", "z0 p g3,0 d3,0=10 z1 d3,0=10 z2 d3,0=10");
        s.set('g', 1);
        plan(s, "nothing in the gap", "z0 p g3,0 d3,0=10 z2 d3,0=10");
        s.set('g', 2);
        plan(s, "nothing but the gap", "z2 g3,0 d3,0=10");
    }

    private static void pauseOfNothing() {
        Check.about("For each layer with a stroke, there is 'z' ..; then 'p' if a pause was told for this layer");
        SliceWright s = cells(0, 0, 0, 0, 0, 11);
        s.setPause(5, true);
        plan(s, "a pause of a layer with nothing", "z0 d0,0=10 z11 d0,0=10");
        s.setPause(0, true);
        plan(s, "a pause of the first layer", "z0 p d0,0=10 z11 d0,0=10");
        s.setPause(11, true);
        plan(s, "a pause of the last layer", "z0 p d0,0=10 z11 p d0,0=10");
        s.setPause(0, false);
        plan(s, "one taken back", "z0 d0,0=10 z11 p d0,0=10");
    }

    // ---- the order of strokes

    private static void nearestBySum() {
        Check.about("where the distance is that in x plus that in y");
        plan(cells(2, 2, 0, 0, 3, 0), "2 and 2 is further than 3", "z0 g0,3 d0,3=10 g2,2 d2,2=10");
        plan(cells(2, 2, 1, 3, 0, 1), "the same along y", "z1 g3,0 d3,0=10 g2,2 d2,2=10");
        plan(cells(11, 11, 0), "the furthest", "z0 g11,11 d11,11=10");
        plan(cells(11, 11, 0, 0, 0, 0), "the nearest and the furthest", "z0 d0,0=10 g11,11 d11,11=10");
    }

    private static void nearestAmongKinds() {
        Check.about("in each the kinds in the order above; of the strokes of the kind that are left");
        SliceWright s = new SliceWright();
        s.box(0, 0, 1, 9, 9, 3, true);
        s.box(2, 2, 1, 1, 1, 1, false);
        s.box(4, 4, 3, 1, 1, 1, false);
        s.box(11, 11, 5, 1, 1, 1, true);
        s.set('s', 1);
        s.plan();
        String order = "wbtis";
        StringBuilder kinds = new StringBuilder();
        char layer = ' ';
        int last = 0;
        for (int command = 0; command < 150 && layer != 3; command++) {
            if (s.commandAt(command) == 'z') {
                layer = (char) s.numberAt(command, 'z');
                last = 0;
            } else if (s.commandAt(command) == 'd' && layer == 2) {
                char kind = s.kindAt(s.numberAt(command, 'x'), s.numberAt(command, 'y'), 2);
                Check.same("the kind " + kind + " is not ahead of its turn", order.indexOf(kind) >= last, true);
                kinds.append(order.indexOf(kind) > last || kinds.length() == 0 ? String.valueOf(kind) : "");
                last = order.indexOf(kind);
            }
        }
        Check.same("all kinds of a layer", kinds.toString(), order);
    }

    private static void tiesAlongX() {
        Check.about("of several, the one with the lowest number; numbered .. by the other place, then by "
                + "their first cell");
        plan(cells(5, 5, 0, 5, 4, 2, 4, 5, 2, 6, 5, 2, 5, 6, 2), "four as near",
                "z0 g5,5 d5,5=10 z2 g5,4 d5,4=10 g4,5 d4,5=10 g6,5 d6,5=10 g5,6 d5,6=10");
        plan(cells(5, 0, 0, 3, 0, 2, 7, 0, 2), "two of a row",
                "z0 g5,0 d5,0=10 z2 g3,0 d3,0=10 g7,0 d7,0=10");
        plan(cells(0, 11, 0, 0, 10, 0), "one nearer", "z0 g0,10 d0,10=10 g0,11 d0,11=10");
    }

    private static void tiesAlongY() {
        Check.about("of several, the one with the lowest number; numbered .. by the other place, then by "
                + "their first cell");
        plan(cells(5, 5, 1, 5, 4, 3, 4, 5, 3, 6, 5, 3, 5, 6, 3), "four as near",
                "z1 g5,5 d5,5=10 z3 g4,5 d4,5=10 g5,4 d5,4=10 g5,6 d5,6=10 g6,5 d6,5=10");
        plan(cells(0, 5, 1, 0, 3, 3, 0, 7, 3), "two of a row",
                "z1 g0,5 d0,5=10 z3 g0,3 d0,3=10 g0,7 d0,7=10");
    }

    private static void tiesOfEnds() {
        Check.about("that comes next which has an end that is nearest to the head");
        SliceWright s = cells(5, 0, 0);
        s.box(1, 0, 2, 3, 1, 1, true);
        s.box(7, 0, 2, 3, 1, 1, true);
        plan(s, "the last cell of one is as near as the first one of another",
                "z0 g5,0 d5,0=10 z2 g3,0 d1,0=30 g7,0 d9,0=30");
        s = cells(6, 0, 0);
        s.box(1, 0, 2, 3, 1, 1, true);
        s.box(7, 0, 2, 3, 1, 1, true);
        plan(s, "the first cell of the second one is nearer",
                "z0 g6,0 d6,0=10 z2 g7,0 d9,0=30 g3,0 d1,0=30");
        s = cells(11, 0, 0);
        s.box(0, 0, 2, 12, 1, 1, true);
        s.box(0, 2, 2, 12, 1, 1, true);
        plan(s, "from the last cell to the first one, and back",
                "z0 g11,0 d11,0=10 z2 d0,0=120 g0,2 d11,2=120");
    }

    private static void firstCellIfBothAreAsNear() {
        Check.about("The head goes to its nearer end, to the first cell if both are as near, and then draws "
                + "to its other end.");
        SliceWright s = cells(5, 0, 0);
        s.box(3, 2, 2, 5, 1, 1, true);
        plan(s, "both as near, along x", "z0 g5,0 d5,0=10 z2 g3,2 d7,2=50");
        s = cells(6, 0, 0);
        s.box(3, 2, 2, 5, 1, 1, true);
        plan(s, "the last one by 1 nearer", "z0 g6,0 d6,0=10 z2 g7,2 d3,2=50");
        s = cells(4, 0, 0);
        s.box(3, 2, 2, 5, 1, 1, true);
        plan(s, "the first one by 1 nearer", "z0 g4,0 d4,0=10 z2 g3,2 d7,2=50");
        s = cells(0, 5, 1);
        s.box(2, 3, 3, 1, 5, 1, true);
        plan(s, "both as near, along y", "z1 g0,5 d0,5=10 z3 g2,3 d2,7=50");
        s = cells(0, 6, 1);
        s.box(2, 3, 3, 1, 5, 1, true);
        plan(s, "the last one by 1 nearer, along y", "z1 g0,6 d0,6=10 z3 g2,7 d2,3=50");
        s = cells(3, 0, 0);
        s.box(3, 0, 2, 2, 1, 1, true);
        plan(s, "the head is at the first cell of two", "z0 g3,0 d3,0=10 z2 d4,0=20");
        s = cells(4, 0, 0);
        s.box(3, 0, 2, 2, 1, 1, true);
        plan(s, "the head is at the last cell of two", "z0 g4,0 d4,0=10 z2 d3,0=20");
    }

    private static void tiesBetweenRowAndEnds() {
        Check.about("The head is at 0, 0 at first.");
        SliceWright s = new SliceWright();
        s.box(0, 0, 0, 12, 2, 1, true);
        s.set('w', 3);
        plan(s, "two rows", "z0 d11,0=120 g11,1 d0,1=120");
        s.box(0, 0, 0, 1, 1, 1, false);
        plan(s, "the first cell is taken: as near, and of the lower number", "z0 g1,0 d11,0=110 g11,1 d0,1=120");
        s.box(1, 0, 0, 1, 1, 1, false);
        plan(s, "the second one too: the second row is nearer", "z0 g0,1 d11,1=120 g11,0 d2,0=100");
    }

    private static void headBehindLayers() {
        Check.about("The layers are gone through from the bed upwards");
        SliceWright s = cells(11, 11, 0, 0, 0, 11);
        plan(s, "from the last place back to the first", "z0 g11,11 d11,11=10 z11 g0,0 d0,0=10");
        Check.same("travel", s.travel(), 44);
    }

    private static void noWay() {
        Check.about("if the head is not where the stroke begins");
        SliceWright s = cells(0, 0, 0, 0, 0, 1, 0, 0, 2);
        s.set('r', 0);
        plan(s, "no way at all", "z0 d0,0=10 z1 d0,0=10 z2 d0,0=10");
        s.box(0, 0, 1, 1, 2, 1, true);
        plan(s, "a way of 1 back", "z0 d0,0=10 z1 d0,1=20 z2 r g0,0 u d0,0=10");
    }

    private static void reachOfEachDistance() {
        Check.about("'r' if the distance is greater than the reach, 'g' with the place, and 'u' if there was an 'r'");
        for (int distance = 1; distance <= 22; distance++) {
            int x = Math.min(distance, 11);
            int y = distance - x;
            String place = x + "," + y;
            SliceWright s = cells(x, y, 0);
            s.set('r', distance);
            plan(s, "the reach is the distance " + distance, "z0 g" + place + " d" + place + "=10");
            s.set('r', distance - 1);
            plan(s, "the reach is 1 less than " + distance, "z0 r g" + place + " u d" + place + "=10");
            Check.same("travel", s.travel(), distance);
        }
        SliceWright s = new SliceWright();
        s.box(2, 2, 0, 1, 1, 1, true);
        plan(s, "the reach is 4 at first", "z0 g2,2 d2,2=10");
        s.box(2, 2, 0, 1, 1, 1, false);
        s.box(2, 3, 0, 1, 1, 1, true);
        plan(s, "5 is greater", "z0 r g2,3 u d2,3=10");
    }

    // ---- numbers

    private static void leastAndGreatestAmount() {
        Check.about("an amount: 10 times the number of its cells times the thickness of the layer");
        for (int cells = 1; cells <= 12; cells++) {
            for (int thickness = 1; thickness <= 3; thickness++) {
                SliceWright s = new SliceWright();
                s.box(0, 0, 0, cells, 1, 1, true);
                s.setThickness(0, thickness);
                s.setThickness(1, 4 - thickness);
                int amount = 10 * cells * thickness;
                plan(s, cells + " cells", "z0 d" + (cells - 1) + ",0=" + amount);
                Check.same("planned", s.planned(), (long) amount);
            }
        }
    }

    private static void amountsOfAll() {
        Check.about("Returns the sum of the amounts of all commands.");
        SliceWright s = full();
        s.plan();
        Check.same("a full body, 700 cells of it empty", s.planned(), 10280L);
        s.set('d', 1);
        s.plan();
        Check.same("a full body, all filled", s.planned(), 17280L);
        for (int z = 0; z < 12; z++) {
            s.setThickness(z, 3);
        }
        Check.same("not planned anew", s.planned(), 17280L);
        s.plan();
        Check.same("all layers of the thickness 3", s.planned(), 51840L);
    }

    private static void travelOfAll() {
        Check.about("Returns the sum over all 'g' of the distances in x plus those in y.");
        SliceWright s = cells(11, 11, 0, 0, 11, 1, 11, 0, 2, 0, 0, 3);
        s.plan();
        Check.same("through all corners", s.travel(), 22 + 11 + 22 + 11);
        s = new SliceWright();
        s.box(0, 0, 0, 12, 12, 1, true);
        s.set('w', 1);
        s.set('k', 0);
        s.set('d', 1);
        int commands = s.plan();
        int travel = 0;
        int[] head = {0, 0};
        for (int command = 0; command < commands; command++) {
            char kind = s.commandAt(command);
            if (kind == 'g' || kind == 'd') {
                int x = s.numberAt(command, 'x');
                int y = s.numberAt(command, 'y');
                travel += kind == 'g' ? Math.abs(x - head[0]) + Math.abs(y - head[1]) : 0;
                head = new int[] {x, y};
            }
        }
        Check.same("a whole layer", s.travel(), travel);
    }

    private static void firstAndLastCommand() {
        Check.about("They are numbered from 0.");
        SliceWright s = full();
        int commands = s.plan();
        Check.same("commands", s.commands(), commands);
        Check.same("the first one", s.commandAt(0), 'z');
        Check.same("its layer", s.numberAt(0, 'z'), 0);
        Check.same("the second one", s.commandAt(1), 'd');
        Check.same("its x", s.numberAt(1, 'x'), 11);
        Check.same("its y", s.numberAt(1, 'y'), 0);
        Check.same("its amount", s.numberAt(1, 'a'), 120);
        Check.same("the last one", s.commandAt(commands - 1), 'd');
        Check.same("its amount", s.numberAt(commands - 1, 'a'), 100);
        Check.refuses("the one behind it", IndexOutOfBoundsException.class, () -> s.commandAt(commands));
        Check.refuses("its number", IndexOutOfBoundsException.class, () -> s.numberAt(commands, 'x'));
        Check.refuses("the one ahead of the first", IndexOutOfBoundsException.class, () -> s.numberAt(-1, 'z'));
    }

    private static void numbersOfCommands() {
        Check.about("'x' or 'y' of a move, 'a' the amount of 'd', 'z' the layer of 'z'");
        SliceWright s = new SliceWright();
        s.box(11, 9, 11, 1, 3, 1, true);
        s.setThickness(11, 3);
        plan(s, "one of each", "z11 r g11,9 u d11,11=90");
        Check.same("x of 'g'", s.numberAt(2, 'x'), 11);
        Check.same("y of 'g'", s.numberAt(2, 'y'), 9);
        Check.same("x of 'd'", s.numberAt(4, 'x'), 11);
        Check.same("y of 'd'", s.numberAt(4, 'y'), 11);
        Check.same("a of 'd'", s.numberAt(4, 'a'), 90);
        s = cells(0, 0, 0);
        s.plan();
        Check.same("the least x", s.numberAt(1, 'x'), 0);
        Check.same("the least y", s.numberAt(1, 'y'), 0);
        Check.same("the least layer", s.numberAt(0, 'z'), 0);
    }

    private static void noEffectUntilPlanned() {
        Check.about("changes of the body and of settings have no effect on them until then");
        SliceWright s = cells(5, 0, 0, 5, 0, 2);
        s.plan();
        String before = "z0 g5,0 d5,0=10 z2 d5,0=10";
        s.box(0, 0, 0, 12, 12, 12, true);
        Check.same("the body", PlanTest.text(s), before);
        s.box(0, 0, 0, 12, 12, 12, false);
        Check.same("an empty body", PlanTest.text(s), before);
        for (char letter : "wkdsgr".toCharArray()) {
            s.set(letter, 1);
        }
        s.setPattern('g');
        for (int z = 0; z < 12; z++) {
            s.setThickness(z, 3);
            s.setPause(z, true);
        }
        Check.same("the settings", PlanTest.text(s), before);
        Check.same("planned", s.planned(), 20L);
        Check.same("travel", s.travel(), 5);
        s.box(5, 0, 0, 1, 1, 1, true);
        plan(s, "planned anew", "z0 p r g5,0 u d5,0=30");
    }

    // ---- plan and the machine

    private static SliceWright printing(int ticks) {
        SliceWright s = cells(0, 0, 0, 3, 0, 1);
        s.setPause(1, true);
        s.plan();
        s.setTarget(200);
        s.pass(100);
        s.print();
        s.pass(ticks);
        return s;
    }

    private static void plannedFromStates() {
        Check.about("Plans: makes the commands anew; the state is 'i' then, and next() 0.");
        String anew = "z0 d0,0=10 z1 p g3,0 d3,0=10";
        SliceWright s = printing(4);
        Check.same("paused", s.state(), 'p');
        s.goOn();
        s.pass(100);
        Check.same("done", s.state(), 'd');
        Check.same("next when done", s.next(), 6);
        plan(s, "planned when done", anew);
        s = printing(6);
        s.cut();
        Check.same("next when cut", s.next(), 4);
        plan(s, "planned when cut", anew);
        s = printing(4);
        s.cut();
        s.fail();
        s.mend();
        plan(s, "planned when cut, failed and mended", anew);
        s = cells(0, 0, 0);
        plan(s, "planned", "z0 d0,0=10");
        plan(s, "planned again", "z0 d0,0=10");
    }

    private static void planLeavesTheMachine() {
        Check.about("makes the commands anew; the state is 'i' then, and next() 0 (and nothing else)");
        SliceWright s = printing(4);
        s.goOn();
        s.pass(100);
        long time = s.time();
        int temperature = s.temperature();
        long laid = s.laidInAll();
        Check.same("laid", laid, 20L);
        s.plan();
        Check.same("time", s.time(), time);
        Check.same("temperature", s.temperature(), temperature);
        Check.same("laid in all", s.laidInAll(), laid);
        Check.same("laid in a cell", s.laid(3, 0, 1), 10);
        Check.same("target", s.setTarget(100), 200);
        Check.same("speed", s.speed(), 0);
        Check.same("nothing is over", s.pass(10), 0);
    }

    // ---- the most commands

    private static final int[][] TOWERS = towers();

    /** In each second layer cells and supports by turns, between them supports alone, a whole layer above. */
    private static int[][] towers() {
        int[][] boxes = new int[72 * 5 + 1][];
        int count = 0;
        for (int z = 0; z < 10; z += 2) {
            for (int cell = 0; cell < 144; cell++) {
                if ((cell % 12 + cell / 12) % 2 == 0) {
                    boxes[count] = new int[] {cell % 12, cell / 12, z, 1, 1, 1};
                    count++;
                }
            }
        }
        boxes[count] = new int[] {0, 0, 11, 12, 12, 1};
        return boxes;
    }

    private static SliceWright made() {
        SliceWright s = new SliceWright();
        for (int[] b : TOWERS) {
            s.box(b[0], b[1], b[2], b[3], b[4], b[5], true);
        }
        s.set('s', 1);
        s.set('g', 1);
        s.set('r', 0);
        for (int z = 0; z < 12; z++) {
            s.setPause(z, true);
        }
        s.plan();
        return s;
    }

    private static PlainModel model() {
        PlainModel m = new PlainModel();
        for (int[] b : TOWERS) {
            m.box(b[0], b[1], b[2], b[3], b[4], b[5], true);
        }
        m.set('s', 1);
        m.set('g', 1);
        m.set('r', 0);
        for (int z = 0; z < 12; z++) {
            m.setPause(z, true);
        }
        m.plan();
        return m;
    }

    /** An object answers 512 calls, so that it is made anew for each hundred commands. */
    private static void mostCommands() {
        Check.about("there is 'z' with the layer; then 'p' ..; then, for each stroke in the order of the "
                + "plan, .. 'r' .. 'g' .. 'u' .. 'd'");
        PlainModel m = model();
        SliceWright s = made();
        int strokes = 0;
        for (int z = 0; z < 12; z++) {
            int due = z == 9 ? 12 : z == 10 ? 0 : z == 11 ? 32 : z % 2 == 0 ? 144 : 72;
            Check.same("strokes of the layer " + z, s.strokes(z), due);
            strokes += due;
        }
        Check.same("strokes", strokes, 1052);
        int commands = s.commands();
        Check.same("commands", commands, m.commands());
        Check.same("some four for each stroke", commands > 4 * strokes && commands <= 4 * strokes + 22, true);
        Check.same("travel", s.travel(), m.travel());
        Check.same("planned", s.planned(), m.planned());
        for (int command = 0; command < commands; command++) {
            if (command % 100 == 0) {
                s = made();
            }
            char kind = m.commandAt(command);
            Check.same("command " + command, s.commandAt(command), kind);
            if (kind == 'd') {
                Check.same("x of " + command, s.numberAt(command, 'x'), m.numberAt(command, 'x'));
                Check.same("y of " + command, s.numberAt(command, 'y'), m.numberAt(command, 'y'));
            }
        }
    }
}

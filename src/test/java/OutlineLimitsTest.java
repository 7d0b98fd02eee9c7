/** Promises 9 to 12 and the term outlines: layers with nothing, with one cell, with all, with the most outlines. */
public final class OutlineLimitsTest {
    public static void main(String[] args) {
        nothing();
        oneCell();
        allCells();
        allLayers();
        rowsDoNotWrapAround();
        solidOverCorners();
        openOverCorners();
        openAtTheBorder();
        besideTheBorder();
        openToTheBorderOverACorner();
        greatestHole();
        mostOuter();
        mostInner();
        turningLeft();
        longOutline();
        edgesBetweenCells();
        layersApart();
        settingsDoNotCount();
        askedAgain();
        bothCountsAlike();
        Check.end();
    }

    private static void outlines(SliceWright s, String what, int z, int outer, int inner, int edges) {
        Check.same(what + ": outer", s.outer(z), outer);
        Check.same(what + ": inner", s.inner(z), inner);
        Check.same(what + ": by edges", s.outlinesByEdges(z), outer + inner);
        Check.same(what + ": edges", s.edges(z), edges);
    }

    /** Rows of a layer, '#' for what is solid, from the lowest y upwards, the first sign at the x 0. */
    private static SliceWright layer(int z, String... rows) {
        SliceWright s = new SliceWright();
        for (int y = 0; y < rows.length; y++) {
            for (int x = 0; x < rows[y].length(); x++) {
                if (rows[y].charAt(x) == '#') {
                    s.box(x, y, z, 1, 1, 1, true);
                }
            }
        }
        return s;
    }

    private static SliceWright whole(int z) {
        SliceWright s = new SliceWright();
        s.box(0, 0, z, 12, 12, 1, true);
        return s;
    }

    private static void nothing() {
        Check.about("The outlines of a layer are the closed rows of edges between cells that are solid and others.");
        SliceWright s = new SliceWright();
        for (int z = 0; z < 12; z++) {
            outlines(s, "nothing in the layer " + z, z, 0, 0, 0);
        }
    }

    private static void oneCell() {
        Check.about("What is beyond these places is not solid.");
        int[] places = {0, 1, 5, 10, 11};
        for (int x : places) {
            for (int y : places) {
                SliceWright s = new SliceWright();
                s.box(x, y, 6, 1, 1, 1, true);
                outlines(s, "one cell at " + x + ", " + y, 6, 1, 0, 4);
            }
        }
        SliceWright s = layer(3, "#..........#", "", "", "", "", "", "", "", "", "", "", "#..........#");
        outlines(s, "four corners", 3, 4, 0, 16);
    }

    private static void allCells() {
        Check.about("What is beyond these places is not solid.");
        outlines(whole(0), "the whole first layer", 0, 1, 0, 48);
        outlines(whole(11), "the whole last layer", 11, 1, 0, 48);
    }

    private static void allLayers() {
        Check.about("Returns the number of edges of all outlines of a layer.");
        SliceWright s = new SliceWright();
        s.box(0, 0, 0, 12, 12, 12, true);
        for (int z = 0; z < 12; z++) {
            outlines(s, "a full body, layer " + z, z, 1, 0, 48);
        }
    }

    private static void rowsDoNotWrapAround() {
        Check.about("as there are sets of solid cells that hang together over neighbours");
        outlines(layer(0, "...........#", "#"), "the end of a row and the begin of the next", 0, 2, 0, 8);
        outlines(layer(0, "#", "", "", "", "", "", "", "", "", "", "", "#"), "the first row and the last", 0, 2, 0, 8);
        outlines(layer(0, "#..........#"), "the first cell of a row and its last", 0, 2, 0, 8);
    }

    private static void solidOverCorners() {
        Check.about("sets of solid cells that hang together over neighbours (not over corners)");
        outlines(layer(2, "#.", ".#"), "over a corner", 2, 2, 0, 8);
        outlines(layer(2, ".#", "#."), "over the other corner", 2, 2, 0, 8);
        outlines(layer(2, "##", ".#"), "over a neighbour", 2, 1, 0, 8);
        outlines(layer(2, "..#", ".#.", "#.."), "three over corners", 2, 3, 0, 12);
        outlines(layer(2, "...", ".#.", "#.#", ".#."), "four round one that is not solid", 2, 4, 0, 16);
    }

    private static void openOverCorners() {
        Check.about("sets of cells that are not solid, hang together over neighbours and over corners");
        outlines(layer(2, "####", "#.##", "##.#", "####"), "over a corner", 2, 1, 1, 16 + 8);
        outlines(layer(2, "####", "##.#", "#.##", "####"), "over the other corner", 2, 1, 1, 16 + 8);
        outlines(layer(2, "#####", "#.#.#", "#####"), "apart", 2, 1, 2, 16 + 8);
        outlines(layer(2, "####", "#..#", "####"), "over a neighbour", 2, 1, 1, 14 + 6);
    }

    private static void openAtTheBorder() {
        Check.about("and have no cell at the border of the layer");
        for (int place = 0; place < 12; place++) {
            int[][] ends = {{place, 0}, {place, 11}, {0, place}, {11, place}};
            for (int[] end : ends) {
                SliceWright s = whole(4);
                s.box(end[0], end[1], 4, 1, 1, 1, false);
                boolean isCorner = end[0] % 11 == 0 && end[1] % 11 == 0;
                outlines(s, "open at " + end[0] + ", " + end[1], 4, 1, 0, isCorner ? 48 : 50);
            }
        }
    }

    private static void besideTheBorder() {
        Check.about("and have no cell at the border of the layer (one beside it is not at it)");
        for (int place = 1; place <= 10; place++) {
            int[][] ends = {{place, 1}, {place, 10}, {1, place}, {10, place}};
            for (int[] end : ends) {
                SliceWright s = whole(4);
                s.box(end[0], end[1], 4, 1, 1, 1, false);
                outlines(s, "a hole at " + end[0] + ", " + end[1], 4, 1, 1, 52);
            }
        }
    }

    private static void openToTheBorderOverACorner() {
        Check.about("nor reach beyond it");
        for (int corner = 0; corner < 4; corner++) {
            int x = corner % 2 == 0 ? 1 : 10;
            int y = corner / 2 == 0 ? 1 : 10;
            SliceWright s = whole(4);
            s.box(x, y, 4, 1, 1, 1, false);
            outlines(s, "closed", 4, 1, 1, 52);
            s.box(x == 1 ? 0 : 11, y == 1 ? 0 : 11, 4, 1, 1, 1, false);
            outlines(s, "open over a corner", 4, 1, 0, 52);
        }
        SliceWright s = whole(4);
        s.box(3, 1, 4, 1, 1, 1, false);
        s.box(4, 0, 4, 1, 1, 1, false);
        outlines(s, "open over a corner to the first row", 4, 1, 0, 54);
    }

    private static void greatestHole() {
        Check.about("It has .. as many inner ones as there are sets of cells that are not solid");
        SliceWright s = whole(5);
        s.box(1, 1, 5, 10, 10, 1, false);
        outlines(s, "a frame of one cell", 5, 1, 1, 88);
        s.box(2, 2, 5, 8, 8, 1, true);
        outlines(s, "a block within it", 5, 2, 1, 120);
        s.box(3, 3, 5, 6, 6, 1, false);
        s.box(4, 4, 5, 4, 4, 1, true);
        s.box(5, 5, 5, 2, 2, 1, false);
        outlines(s, "three frames", 5, 3, 3, 48 + 40 + 32 + 24 + 16 + 8);
        s.box(6, 6, 5, 1, 1, 1, true);
        outlines(s, "a corner of the innermost hole is solid", 5, 3, 3, 168);
        s.box(0, 3, 5, 1, 1, 1, false);
        outlines(s, "the outmost frame is open", 5, 3, 2, 168);
    }

    private static void mostOuter() {
        Check.about("It has as many outer ones as there are sets of solid cells");
        for (int first = 0; first < 2; first++) {
            SliceWright s = new SliceWright();
            for (int cell = 0; cell < 144; cell++) {
                if ((cell % 12 + cell / 12) % 2 == first) {
                    s.box(cell % 12, cell / 12, 7, 1, 1, 1, true);
                }
            }
            outlines(s, "every second cell from " + first, 7, 72, 0, 288);
        }
    }

    private static void mostInner() {
        Check.about("It has .. as many inner ones as there are sets of cells that are not solid");
        SliceWright s = whole(7);
        for (int cell = 0; cell < 25; cell++) {
            s.box(1 + 2 * (cell % 5), 1 + 2 * (cell / 5), 7, 1, 1, 1, false);
        }
        outlines(s, "every second cell along both", 7, 1, 25, 148);
        s.box(11, 11, 7, 1, 1, 1, false);
        outlines(s, "a corner of the layer too", 7, 1, 25, 148);
        s.box(10, 10, 7, 1, 1, 1, false);
        outlines(s, "the last hole is open over corners", 7, 1, 24, 152);
    }

    private static void turningLeft() {
        Check.about("found by going along edges with solid cells to the left, turning left where both ways are open");
        Check.same("over a corner", layer(1, "#.", ".#").outlinesByEdges(1), 2);
        Check.same("over the other corner", layer(1, ".#", "#.").outlinesByEdges(1), 2);
        Check.same("holes over a corner", layer(1, "####", "#.##", "##.#", "####").outlinesByEdges(1), 2);
        Check.same("holes over the other corner", layer(1, "####", "##.#", "#.##", "####").outlinesByEdges(1), 2);
        Check.same("a ring that touches itself", layer(1, "###", "#.#", "##.").outlinesByEdges(1), 1);
        Check.same("one that touches itself elsewhere", layer(1, "###", "#.#", ".##").outlinesByEdges(1), 1);
        Check.same("a ring that touches another cell", layer(1, "###.", "#.#.", "###.", "...#").outlinesByEdges(1), 3);
    }

    private static void longOutline() {
        Check.about("Returns the number of all outlines of a layer");
        SliceWright s = layer(0, "############", "#..........#", "#.########.#", "#.#......#.#", "#.#.####.#.#",
                "#.#.#..#.#.#", "#.#.#.##.#.#", "#.#.#....#.#", "#.#.######.#", "#.#........#", "#.##########",
                "#...........");
        Check.same("a row of cells in windings: outer", s.outer(0), 1);
        Check.same("its inner", s.inner(0), 0);
        Check.same("by edges", s.outlinesByEdges(0), 1);
        s.box(1, 11, 0, 1, 1, 1, true);
        s.box(1, 10, 0, 1, 1, 1, true);
        Check.same("closed: outer", s.outer(0), 1);
        Check.same("closed: inner", s.inner(0), 1);
        Check.same("closed: by edges", s.outlinesByEdges(0), 2);
    }

    private static void edgesBetweenCells() {
        Check.about("edges between cells that are solid and others");
        Check.same("two cells", layer(9, "##").edges(9), 6);
        Check.same("two cells one above the other", layer(9, "#", "#").edges(9), 6);
        Check.same("a row of all", layer(9, "############").edges(9), 26);
        Check.same("a block", layer(9, "###", "###", "###").edges(9), 12);
        Check.same("a block with a hole", layer(9, "###", "#.#", "###").edges(9), 16);
    }

    private static void layersApart() {
        Check.about("The outlines of a layer ..");
        SliceWright s = layer(4, "##", "##");
        for (int z = 0; z < 12; z++) {
            outlines(s, "layer " + z, z, z == 4 ? 1 : 0, 0, z == 4 ? 8 : 0);
        }
        s = new SliceWright();
        s.box(0, 0, 0, 12, 12, 12, true);
        s.box(5, 5, 6, 1, 1, 1, false);
        for (int z = 0; z < 12; z++) {
            outlines(s, "full, layer " + z, z, 1, z == 6 ? 1 : 0, z == 6 ? 52 : 48);
        }
    }

    private static void settingsDoNotCount() {
        Check.about("edges between cells that are solid and others (supports are not solid)");
        SliceWright s = layer(4, "###", "#.#", "###");
        s.set('s', 1);
        s.set('w', 3);
        s.set('k', 0);
        outlines(s, "with supports", 4, 1, 1, 16);
        outlines(s, "supports below", 3, 0, 0, 0);
    }

    /** The first cell and its first edge, which an earlier count has seen too. */
    private static void askedAgain() {
        Check.about("Returns the number of outlines.");
        SliceWright s = layer(0, "#..", "...", "..#");
        s.box(0, 0, 1, 1, 1, 1, true);
        s.box(0, 0, 2, 12, 12, 1, true);
        s.box(1, 1, 2, 1, 1, 1, false);
        for (int times = 0; times < 3; times++) {
            outlines(s, "asked again", 0, 2, 0, 8);
            outlines(s, "of another layer", 1, 1, 0, 4);
            outlines(s, "of a third", 2, 1, 1, 52);
        }
        s.box(0, 0, 0, 12, 12, 12, false);
        for (int z = 0; z < 12; z++) {
            outlines(s, "emptied, layer " + z, z, 0, 0, 0);
        }
    }

    private static void bothCountsAlike() {
        Check.about("outlines that are counted in two ways");
        for (int step = 2; step < 12; step++) {
            SliceWright s = new SliceWright();
            for (int cell = 0; cell < 144; cell += step) {
                s.box(cell % 12, cell / 12, 8, 1, 1, 1, true);
            }
            Check.same("every cell " + step, s.outlinesByEdges(8), s.outer(8) + s.inner(8));
            s = whole(8);
            for (int cell = 0; cell < 144; cell += step) {
                s.box(cell % 12, cell / 12, 8, 1, 1, 1, false);
            }
            Check.same("all but every cell " + step, s.outlinesByEdges(8), s.outer(8) + s.inner(8));
        }
    }
}

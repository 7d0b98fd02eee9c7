/** Promises 9 to 12: outer and inner outlines, outlines by edges, edges. */
public final class OutlinesTest {
    public static void main(String[] args) {
        empty();
        whole();
        diagonalSolids();
        diagonalHoles();
        openOverACorner();
        nested();
        board();
        otherLayers();
        Check.end();
    }

    private static void outlines(SliceWright s, String what, int z, int outer, int inner, int edges) {
        Check.same(what + ": outer", s.outer(z), outer);
        Check.same(what + ": inner", s.inner(z), inner);
        Check.same(what + ": by edges", s.outlinesByEdges(z), outer + inner);
        Check.same(what + ": edges", s.edges(z), edges);
    }

    private static void empty() {
        outlines(new SliceWright(), "empty", 0, 0, 0, 0);
    }

    private static void whole() {
        SliceWright s = new SliceWright();
        s.box(0, 0, 0, 12, 12, 1, true);
        outlines(s, "whole", 0, 1, 0, 48);
        s.box(0, 5, 0, 1, 1, 1, false);
        outlines(s, "a bay", 0, 1, 0, 50);
        s.box(11, 11, 0, 1, 1, 1, false);
        outlines(s, "a corner", 0, 1, 0, 50);
        s.box(1, 1, 0, 1, 1, 1, false);
        outlines(s, "a hole beside the border", 0, 1, 1, 54);
    }

    private static void diagonalSolids() {
        SliceWright s = new SliceWright();
        s.box(4, 4, 2, 1, 1, 1, true);
        s.box(5, 5, 2, 1, 1, 1, true);
        outlines(s, "solid over a corner", 2, 2, 0, 8);
        s.box(4, 5, 2, 1, 1, 1, true);
        outlines(s, "solid over neighbours", 2, 1, 0, 8);
    }

    private static void diagonalHoles() {
        SliceWright s = new SliceWright();
        s.box(1, 1, 3, 8, 8, 1, true);
        s.box(3, 3, 3, 1, 1, 1, false);
        s.box(4, 4, 3, 1, 1, 1, false);
        outlines(s, "holes over a corner", 3, 1, 1, 40);
        s.box(6, 3, 3, 1, 1, 1, false);
        outlines(s, "holes apart", 3, 1, 2, 44);
        s.box(5, 4, 3, 1, 1, 1, false);
        outlines(s, "holes joined", 3, 1, 1, 46);
    }

    private static void openOverACorner() {
        SliceWright s = new SliceWright();
        s.box(1, 1, 0, 4, 4, 1, true);
        s.box(2, 2, 0, 1, 1, 1, false);
        outlines(s, "a hole", 0, 1, 1, 20);
        s.box(1, 1, 0, 1, 1, 1, false);
        outlines(s, "a hole that is open over a corner", 0, 1, 0, 20);
        s.box(0, 0, 0, 2, 2, 1, true);
        outlines(s, "closed again", 0, 1, 1, 24);
    }

    private static void nested() {
        SliceWright s = new SliceWright();
        s.box(2, 3, 7, 7, 7, 1, true);
        s.box(3, 4, 7, 5, 5, 1, false);
        s.box(4, 5, 7, 3, 3, 1, true);
        s.box(5, 6, 7, 1, 1, 1, false);
        outlines(s, "rings", 7, 2, 2, 28 + 20 + 12 + 4);
        s.box(5, 6, 7, 1, 1, 1, true);
        outlines(s, "a block in a ring", 7, 2, 1, 60);
    }

    /** Every cell of the colour of the first one: each is an outline of its own. */
    private static void board() {
        SliceWright s = new SliceWright();
        for (int y = 0; y < 12; y++) {
            for (int x = y % 2; x < 12; x += 2) {
                s.box(x, y, 0, 1, 1, 1, true);
            }
        }
        outlines(s, "board", 0, 72, 0, 288);
        s.box(0, 0, 0, 12, 1, 1, true);
        s.box(0, 11, 0, 12, 1, 1, true);
        s.box(0, 0, 0, 1, 12, 1, true);
        s.box(11, 0, 0, 1, 12, 1, true);
        Check.same("framed board: inner", s.inner(0), 1);
        Check.same("framed board: by edges", s.outlinesByEdges(0), s.outer(0) + 1);
    }

    private static void otherLayers() {
        SliceWright s = new SliceWright();
        s.box(1, 1, 0, 3, 3, 1, true);
        s.box(2, 2, 11, 4, 2, 1, true);
        outlines(s, "the last layer", 11, 1, 0, 12);
        outlines(s, "the first layer", 0, 1, 0, 12);
        outlines(s, "between", 1, 0, 0, 0);
    }
}

/** Promises 35 and 36: no cells, one cell, all cells, and figures by the body and settings as they are now. */
public final class FiguresLimitsTest {
    private static final Class<ArithmeticException> ARITHMETIC = ArithmeticException.class;

    public static void main(String[] args) {
        noSolidCells();
        noneEmpty();
        oneOfNine();
        mostEmpty();
        fullBody();
        supportsAreNotSolid();
        shareAsItIsNow();
        noStrokes();
        shortestMean();
        longestMean();
        meanOfTwo();
        supportsAreStrokes();
        meanOfAFullBody();
        meanAsItIsNow();
        Check.end();
    }

    private static SliceWright body(int x, int y, int z, int dx, int dy, int dz) {
        SliceWright s = new SliceWright();
        s.box(x, y, z, dx, dy, dz, true);
        return s;
    }

    private static void noSolidCells() {
        Check.about("Throws ArithmeticException if there are no solid cells");
        SliceWright s = new SliceWright();
        Check.refuses("a new object", ARITHMETIC, s::emptyShare);
        s.box(11, 11, 11, 1, 1, 1, true);
        Check.same("one cell", s.emptyShare(), 0.0f);
        s.box(11, 11, 11, 1, 1, 1, false);
        Check.refuses("none again", ARITHMETIC, s::emptyShare);
        s.box(0, 0, 0, 1, 1, 1, true);
        Check.same("the first cell", s.emptyShare(), 0.0f);
    }

    private static void noneEmpty() {
        Check.about("the number of cells 'e' divided by that of all solid cells (none is 0)");
        Check.same("walls and bottoms", body(0, 0, 0, 12, 12, 1).emptyShare(), 0.0f);
        SliceWright s = body(0, 0, 0, 12, 12, 12);
        s.set('d', 1);
        Check.same("all filled", s.emptyShare(), 0.0f);
    }

    private static void oneOfNine() {
        Check.about("both converted to float");
        SliceWright s = body(0, 0, 0, 3, 3, 1);
        s.set('k', 0);
        Check.same("one of nine", s.emptyShare(), 1f / 9f);
        s.box(0, 0, 11, 3, 3, 1, true);
        Check.same("two of eighteen", s.emptyShare(), 2f / 18f);
        s.box(11, 11, 11, 1, 1, 1, true);
        Check.same("two of nineteen", s.emptyShare(), 2f / 19f);
    }

    private static void mostEmpty() {
        Check.about("the number of cells 'e' divided by that of all solid cells");
        SliceWright s = body(0, 0, 0, 12, 12, 12);
        s.set('k', 0);
        s.set('d', 6);
        Check.same("lines of the spread 6", s.emptyShare(), 1080f / 1728f);
        s.setPattern('g');
        Check.same("a grid of the spread 6", s.emptyShare(), 12f * 81f / 1728f);
        s.set('w', 3);
        Check.same("a grid within three walls", s.emptyShare(), 12f * 25f / 1728f);
    }

    private static void fullBody() {
        Check.about("Returns the share of the solid cells that are left empty.");
        SliceWright s = body(0, 0, 0, 12, 12, 12);
        Check.same("a full body", s.emptyShare(), 700f / 1728f);
        s.set('k', 3);
        Check.same("three skins", s.emptyShare(), 420f / 1728f);
    }

    private static void supportsAreNotSolid() {
        Check.about("divided by that of all solid cells");
        SliceWright s = body(0, 0, 5, 3, 3, 1);
        s.set('k', 0);
        s.set('s', 1);
        Check.same("nine solid cells above supports", s.emptyShare(), 1f / 9f);
    }

    private static void shareAsItIsNow() {
        Check.about("Returns the number of cells 'e' divided by that of all solid cells");
        SliceWright s = body(0, 0, 0, 12, 12, 12);
        s.plan();
        s.box(0, 0, 1, 12, 12, 11, false);
        Check.same("one layer is left", s.emptyShare(), 0.0f);
        s.set('k', 0);
        Check.same("no skins", s.emptyShare(), 70f / 144f);
        s.setPattern('w');
        s.set('d', 6);
        int empty = 0;
        for (int cell = 0; cell < 144; cell++) {
            empty += s.kindAt(cell % 12, cell / 12, 0) == 'e' ? 1 : 0;
        }
        Check.same("waves", s.emptyShare(), (float) empty / 144f);
    }

    private static void noStrokes() {
        Check.about("Throws ArithmeticException if there are none");
        SliceWright s = new SliceWright();
        Check.refuses("a new object", ARITHMETIC, s::meanStroke);
        s.box(11, 11, 11, 1, 1, 1, true);
        Check.same("one cell", s.meanStroke(), 1.0);
        s.plan();
        s.box(11, 11, 11, 1, 1, 1, false);
        Check.refuses("none again, although it is planned", ARITHMETIC, s::meanStroke);
    }

    private static void shortestMean() {
        Check.about("Returns the mean number of cells of the strokes of all layers");
        Check.same("a row along x in a layer of strokes along y", body(0, 0, 1, 12, 1, 1).meanStroke(), 1.0);
        Check.same("a row along y in a layer of strokes along x", body(0, 0, 0, 1, 12, 1).meanStroke(), 1.0);
        SliceWright s = new SliceWright();
        for (int cell = 0; cell < 144; cell += 2) {
            s.box(cell % 12 + cell / 12 % 2, cell / 12, 4, 1, 1, 1, true);
        }
        Check.same("every second cell", s.meanStroke(), 1.0);
    }

    private static void longestMean() {
        Check.about("Returns the sum divided by the number of strokes");
        Check.same("a row along x", body(0, 11, 10, 12, 1, 1).meanStroke(), 12.0);
        Check.same("a row along y", body(11, 0, 11, 1, 12, 1).meanStroke(), 12.0);
        Check.same("some cells along y", body(3, 4, 5, 1, 7, 1).meanStroke(), 7.0);
        SliceWright s = body(0, 0, 0, 12, 6, 12);
        s.set('w', 3);
        Check.same("rows of 12 and of 6", s.meanStroke(), 864.0 / (6.0 * 6.0 + 6.0 * 12.0));
    }

    private static void meanOfTwo() {
        Check.about("both converted to double");
        SliceWright s = body(0, 0, 0, 12, 1, 1);
        s.box(0, 0, 11, 1, 1, 1, true);
        Check.same("12 and 1", s.meanStroke(), 6.5);
        s.box(5, 5, 11, 1, 2, 1, true);
        Check.same("12, 1 and 2", s.meanStroke(), 5.0);
        s.box(5, 8, 11, 1, 4, 1, true);
        Check.same("12, 1, 2 and 4", s.meanStroke(), 4.75);
        s.box(9, 9, 5, 1, 1, 1, true);
        s.box(9, 9, 7, 1, 1, 1, true);
        Check.same("12, 1, 2, 4, 1 and 1", s.meanStroke(), 21.0 / 6.0);
        s.box(3, 9, 7, 1, 1, 1, true);
        Check.same("and 1", s.meanStroke(), 22.0 / 7.0);
    }

    private static void supportsAreStrokes() {
        Check.about("the strokes of all layers (supports are strokes too)");
        SliceWright s = body(2, 2, 2, 6, 1, 1);
        Check.same("without", s.meanStroke(), 6.0);
        s.set('s', 1);
        Check.same("with two layers of supports", s.meanStroke(), 18.0 / 8.0);
        s.set('g', 1);
        Check.same("with one", s.meanStroke(), 6.0);
        s.set('g', 2);
        Check.same("with none", s.meanStroke(), 6.0);
    }

    private static void meanOfAFullBody() {
        Check.about("Returns the mean number of cells of the strokes of all layers");
        SliceWright s = body(0, 0, 0, 12, 12, 12);
        Check.same("a full body", s.meanStroke(), 1028.0 / 314.0);
        s.set('w', 3);
        s.set('k', 0);
        s.set('d', 1);
        Check.same("all filled within three walls", s.meanStroke(), 1728.0 / (12.0 * (6.0 + 6.0 * 3.0)));
    }

    private static void meanAsItIsNow() {
        Check.about("by the body and settings as they are now");
        SliceWright s = body(0, 0, 0, 3, 3, 1);
        s.plan();
        Check.same("as planned", s.meanStroke(), 9.0 / 5.0);
        s.set('w', 2);
        Check.same("two walls", s.meanStroke(), 3.0);
        s.box(1, 1, 0, 1, 1, 1, false);
        Check.same("a hole", s.meanStroke(), 2.0);
        s.box(3, 0, 0, 1, 1, 1, true);
        Check.same("one cell more", s.meanStroke(), 9.0 / 4.0);
    }
}

/** Promises 35 and 36: the share of empty cells and the mean stroke. */
public final class FiguresTest {
    public static void main(String[] args) {
        emptyShare();
        meanStroke();
        Check.end();
    }

    private static void emptyShare() {
        SliceWright s = new SliceWright();
        s.box(0, 0, 0, 5, 5, 1, true);
        Check.same("no cell is empty", s.emptyShare(), 0.0f);
        s.set('k', 0);
        s.set('d', 6);
        Check.same("9 of 25", s.emptyShare(), 9f / 25f);
        s.set('d', 3);
        Check.same("6 of 25", s.emptyShare(), 6f / 25f);
        s.set('w', 3);
        Check.same("none of 25", s.emptyShare(), 0.0f);
        s.set('w', 1);
        s.box(7, 7, 1, 5, 5, 1, true);
        Check.same("6 and 6 of 50", s.emptyShare(), 12f / 50f);
        s.set('s', 1);
        Check.same("supports do not count", s.emptyShare(), 12f / 50f);
        s.box(0, 0, 0, 12, 12, 12, true);
        Check.same("a full body", s.emptyShare(), 12f * 70f / 1728f);
    }

    private static void meanStroke() {
        SliceWright s = new SliceWright();
        s.box(0, 0, 0, 5, 5, 1, true);
        Check.same("25 cells in 11 strokes", s.meanStroke(), 25.0 / 11.0);
        s.set('k', 0);
        Check.same("19 cells in 8 + 1 strokes", s.meanStroke(), 19.0 / 9.0);
        s.box(9, 9, 3, 2, 1, 1, true);
        Check.same("21 cells in 9 + 2 strokes", s.meanStroke(), 21.0 / 11.0);
        s.set('s', 1);
        Check.same("supports count", s.meanStroke(), 27.0 / (11.0 + 1 + 2 + 1));
        s.box(0, 0, 0, 12, 12, 12, false);
        s.box(11, 11, 11, 1, 1, 1, true);
        s.set('s', 0);
        Check.same("one stroke", s.meanStroke(), 1.0);
    }
}

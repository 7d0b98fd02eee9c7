/** Promises 1 to 8: a new object, the body, the settings, the kinds of cells, and what hangs. */
public final class BodyTest {
    private static final Class<IllegalArgumentException> ARGUMENT = IllegalArgumentException.class;

    public static void main(String[] args) {
        newObject();
        box();
        set();
        pattern();
        thickness();
        pause();
        wallsOfKind();
        skinsOfKind();
        patternsOfKind();
        supports();
        supportsBlocked();
        supportsBesideSolid();
        hanging();
        Check.end();
    }

    private static SliceWright full() {
        SliceWright s = new SliceWright();
        s.box(0, 0, 0, 12, 12, 12, true);
        return s;
    }

    private static void kinds(SliceWright s, String what, int x, int y, int z, char want) {
        Check.same(what + ": kindAt(" + x + ", " + y + ", " + z + ")", s.kindAt(x, y, z), want);
    }

    private static void newObject() {
        SliceWright s = new SliceWright();
        for (int place = 0; place < 12; place++) {
            kinds(s, "new", place, 11 - place, place, '.');
            Check.same("new hanging", s.hanging(place), 0);
            Check.same("new edges", s.edges(place), 0);
            Check.same("new strokes", s.strokes(place), 0);
            Check.same("new laid", s.laid(place, place, place), 0);
        }
        Check.same("new commands", s.commands(), 0);
        Check.same("new travel", s.travel(), 0);
        Check.same("new planned", s.planned(), 0L);
        Check.same("new state", s.state(), 'i');
        Check.same("new next", s.next(), 0);
        Check.same("new speed", s.speed(), 0);
        Check.same("new temperature", s.temperature(), 20);
        Check.same("new time", s.time(), 0L);
        Check.same("new laidInAll", s.laidInAll(), 0L);
        Check.same("new target", s.setTarget(0), 0);
        Check.refuses("new print", IllegalStateException.class, s::print);
        Check.refuses("new resume", IllegalStateException.class, s::resume);
        Check.same("a box in a new body", s.box(0, 0, 0, 12, 12, 12, true), 1728);
    }

    private static void box() {
        SliceWright s = new SliceWright();
        Check.same("box", s.box(1, 2, 3, 4, 5, 6, true), 120);
        Check.same("box again", s.box(1, 2, 3, 4, 5, 6, true), 0);
        Check.same("box over half", s.box(3, 2, 3, 4, 5, 6, true), 60);
        kinds(s, "box", 1, 2, 3, 'w');
        kinds(s, "box", 0, 2, 3, '.');
        kinds(s, "box", 6, 6, 8, 'w');
        kinds(s, "box", 7, 6, 8, '.');
        kinds(s, "box", 6, 7, 8, '.');
        kinds(s, "box", 6, 6, 9, '.');
        Check.same("box taken", s.box(2, 3, 4, 1, 1, 1, false), 1);
        kinds(s, "box taken", 2, 3, 4, '.');
        Check.same("box taken again", s.box(2, 3, 4, 1, 1, 1, false), 0);
        Check.same("a whole row", s.box(0, 11, 11, 12, 1, 1, true), 12);
        Check.same("the last cell", s.box(11, 11, 11, 1, 1, 1, false), 1);
        Check.same("all taken", s.box(0, 0, 0, 12, 12, 12, false), 120 + 60 - 1 + 11);
    }

    private static void set() {
        String letters = "wkdsgr";
        int[] first = {1, 1, 3, 0, 0, 4};
        int[] least = {1, 0, 1, 0, 0, 0};
        int[] most = {3, 3, 6, 1, 2, 22};
        SliceWright s = new SliceWright();
        for (int i = 0; i < letters.length(); i++) {
            char letter = letters.charAt(i);
            Check.same("set " + letter + " at first", s.set(letter, most[i]), first[i]);
            Check.same("set " + letter + " to the least", s.set(letter, least[i]), most[i]);
            Check.same("set " + letter + " back", s.set(letter, first[i]), least[i]);
        }
        for (int i = 0; i < letters.length(); i++) {
            Check.same("set keeps " + letters.charAt(i), s.set(letters.charAt(i), first[i]), first[i]);
            char letter = letters.charAt(i);
            int below = least[i] - 1;
            int above = most[i] + 1;
            Check.refuses("set " + letter + " below", ARGUMENT, () -> s.set(letter, below));
            Check.refuses("set " + letter + " above", ARGUMENT, () -> s.set(letter, above));
            Check.refuses("set " + letter + " far above", ARGUMENT, () -> s.set(letter, Integer.MAX_VALUE));
            Check.refuses("set " + letter + " far below", ARGUMENT, () -> s.set(letter, Integer.MIN_VALUE));
            Check.same("set refused keeps " + letter, s.set(letter, first[i]), first[i]);
        }
    }

    private static void pattern() {
        SliceWright s = new SliceWright();
        Check.same("the first pattern", s.setPattern('g'), 'l');
        Check.same("the next pattern", s.setPattern('w'), 'g');
        Check.same("the same pattern", s.setPattern('w'), 'w');
        Check.same("the pattern back", s.setPattern('l'), 'w');
    }

    private static void thickness() {
        SliceWright s = new SliceWright();
        Check.same("thickness at first", s.setThickness(11, 3), 1);
        Check.same("thickness before", s.setThickness(11, 2), 3);
        Check.same("thickness of another layer", s.setThickness(0, 1), 1);
        Check.same("thickness kept", s.setThickness(11, 2), 2);
    }

    private static void pause() {
        SliceWright s = new SliceWright();
        Check.same("pause at first", s.setPause(3, true), false);
        Check.same("pause told", s.setPause(3, true), true);
        Check.same("pause of another layer", s.setPause(4, false), false);
        Check.same("pause taken back", s.setPause(3, false), true);
        Check.same("no pause", s.setPause(3, false), false);
    }

    private static void wallsOfKind() {
        SliceWright s = full();
        s.set('k', 0);
        s.set('d', 1);
        for (int walls = 1; walls <= 3; walls++) {
            s.set('w', walls);
            for (int depth = 0; depth < 6; depth++) {
                char want = depth < walls ? 'w' : 'i';
                kinds(s, "walls " + walls, depth, 6, 5, want);
                kinds(s, "walls " + walls, 11 - depth, 6, 5, want);
                kinds(s, "walls " + walls, depth, depth, 5, want);
                kinds(s, "walls " + walls, 6, 11 - depth, 5, want);
            }
        }
        s.box(6, 6, 5, 1, 1, 1, false);
        s.set('w', 2);
        kinds(s, "round a hole", 6, 6, 5, '.');
        kinds(s, "round a hole", 5, 6, 5, 'w');
        kinds(s, "round a hole", 5, 5, 5, 'w');
        kinds(s, "round a hole", 4, 6, 5, 'w');
        kinds(s, "round a hole", 4, 5, 5, 'i');
        kinds(s, "above a hole", 5, 6, 6, 'i');
        s.set('w', 1);
        kinds(s, "round a hole", 5, 5, 5, 'i');
    }

    private static void skinsOfKind() {
        SliceWright s = full();
        s.set('d', 1);
        for (int skins = 0; skins <= 3; skins++) {
            s.set('k', skins);
            for (int z = 0; z < 12; z++) {
                kinds(s, "skins " + skins, 5, 5, z, z < skins ? 'b' : z > 11 - skins ? 't' : 'i');
            }
        }
        s.box(0, 0, 2, 12, 12, 10, false);
        s.set('k', 1);
        kinds(s, "two layers", 5, 5, 0, 'b');
        kinds(s, "two layers", 5, 5, 1, 't');
        s.set('k', 2);
        kinds(s, "the bottom goes ahead of the top", 5, 5, 1, 'b');
        kinds(s, "walls go ahead of the bottom", 0, 5, 0, 'w');
    }

    private static void patternsOfKind() {
        SliceWright s = full();
        kinds(s, "lines", 1, 3, 4, 'i');
        kinds(s, "lines", 1, 4, 4, 'e');
        kinds(s, "lines", 3, 4, 4, 'e');
        kinds(s, "lines", 3, 4, 5, 'i');
        kinds(s, "lines", 4, 3, 5, 'e');
        s.setPattern('g');
        kinds(s, "grid", 3, 4, 4, 'i');
        kinds(s, "grid", 4, 3, 5, 'i');
        kinds(s, "grid", 3, 3, 5, 'i');
        kinds(s, "grid", 4, 4, 5, 'e');
        s.setPattern('w');
        kinds(s, "waves", 1, 1, 4, 'i');
        kinds(s, "waves", 2, 1, 4, 'e');
        kinds(s, "waves", 3, 2, 4, 'i');
        kinds(s, "waves", 2, 3, 4, 'e');
        kinds(s, "waves", 1, 3, 4, 'i');
        kinds(s, "waves", 1, 9, 10, 'i');
        s.set('d', 6);
        kinds(s, "wide waves", 4, 4, 4, 'i');
        kinds(s, "wide waves", 4, 4, 5, 'e');
        kinds(s, "wide waves", 3, 4, 5, 'i');
        kinds(s, "wide waves", 3, 8, 3, 'e');
        kinds(s, "wide waves", 1, 8, 3, 'i');
        kinds(s, "wide waves", 7, 8, 3, 'i');
        s.set('d', 1);
        kinds(s, "spread 1", 5, 5, 5, 'i');
    }

    private static void supports() {
        SliceWright s = new SliceWright();
        s.box(5, 5, 6, 1, 1, 1, true);
        kinds(s, "no supports", 5, 5, 5, '.');
        s.set('s', 1);
        for (int gap = 0; gap <= 2; gap++) {
            s.set('g', gap);
            for (int z = 0; z < 6; z++) {
                kinds(s, "gap " + gap, 5, 5, z, z < 6 - gap ? 's' : '.');
            }
            kinds(s, "above", 5, 5, 7, '.');
            kinds(s, "beside", 4, 5, 2, '.');
        }
        s.set('g', 0);
        s.box(5, 5, 0, 1, 1, 3, true);
        kinds(s, "down to what is solid", 5, 5, 3, 's');
        kinds(s, "down to what is solid", 5, 5, 2, 'w');
        s.box(5, 5, 0, 1, 1, 1, false);
        kinds(s, "below what hangs lower", 5, 5, 0, 's');
        s.set('s', 0);
        kinds(s, "no supports any more", 5, 5, 0, '.');
    }

    private static void supportsBlocked() {
        SliceWright s = new SliceWright();
        s.set('s', 1);
        s.set('g', 2);
        s.box(5, 5, 6, 1, 1, 1, true);
        s.box(5, 5, 4, 1, 1, 1, true);
        kinds(s, "a cell left out is solid", 5, 5, 5, '.');
        kinds(s, "left out", 5, 5, 3, '.');
        kinds(s, "left out", 5, 5, 2, '.');
        kinds(s, "below the gap", 5, 5, 1, 's');
        kinds(s, "below the gap", 5, 5, 0, 's');
        s.box(5, 5, 4, 1, 1, 1, false);
        s.box(5, 5, 3, 1, 1, 1, true);
        kinds(s, "none between the gap and what is solid", 5, 5, 4, '.');
        kinds(s, "the gap below the lower one", 5, 5, 1, '.');
        kinds(s, "the last layer", 5, 5, 0, 's');
        s.set('g', 1);
        kinds(s, "one between the gap and what is solid", 5, 5, 4, 's');
    }

    private static void supportsBesideSolid() {
        SliceWright s = new SliceWright();
        s.set('s', 1);
        s.box(5, 5, 6, 2, 1, 1, true);
        s.box(4, 5, 0, 1, 1, 6, true);
        kinds(s, "held by a neighbour of the cell below", 5, 5, 5, '.');
        kinds(s, "not held", 6, 5, 5, 's');
        s.box(4, 5, 5, 1, 1, 1, false);
        s.box(4, 4, 5, 1, 1, 1, true);
        kinds(s, "not held over a corner", 5, 5, 5, 's');
    }

    private static void hanging() {
        SliceWright s = new SliceWright();
        s.box(2, 2, 0, 3, 3, 1, true);
        s.box(0, 0, 1, 7, 7, 1, true);
        Check.same("on the bed", s.hanging(0), 0);
        Check.same("all but a cross of 3 and 4 times 3", s.hanging(1), 49 - 21);
        Check.same("nothing there", s.hanging(2), 0);
        s.box(0, 0, 11, 12, 12, 1, true);
        Check.same("a whole layer", s.hanging(11), 144);
        s.box(0, 0, 10, 1, 1, 1, true);
        Check.same("held at a corner", s.hanging(11), 141);
    }
}

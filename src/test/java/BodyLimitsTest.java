/** Promises 1 to 8 and the terms body, settings and kinds of cells: each sentence at its least and its greatest. */
public final class BodyLimitsTest {
    public static void main(String[] args) {
        nothingAtFirst();
        settingsAtFirst();
        firstAndLastPlaces();
        boxOfOneCell();
        boxOfAllCells();
        boxToTheLastPlace();
        boxCountsWhatChanges();
        leastAndGreatestValues();
        oneSettingAtATime();
        leastAndGreatestThickness();
        thicknessOfEachLayer();
        pauseOfEachLayer();
        rowsDoNotWrapAround();
        layersAreNoNeighbours();
        cornersAreNoNeighbours();
        beyondIsNotSolid();
        wallsOfNarrowBodies();
        wallsBySides();
        noSkins();
        skinsByLayers();
        skinsAheadOfPattern();
        linesBySpread();
        gridBySpread();
        wavesByRest();
        wavesBySpread();
        allFilled();
        nothingHangsOnTheBed();
        hangingInEachLayer();
        heldByEachNeighbour();
        hangingAtBorders();
        hangingIsSolid();
        noSupports();
        supportsToTheBed();
        gapToTheBed();
        gapThatIsSolid();
        supportsEndAboveSolid();
        supportsAtBorders();
        supportsAreNotSolid();
        allOtherCells();
        fullBody();
        Check.end();
    }

    private static SliceWright full() {
        SliceWright s = new SliceWright();
        s.box(0, 0, 0, 12, 12, 12, true);
        return s;
    }

    /** Without skins, so that all cells within the walls are of the pattern. */
    private static SliceWright filled(char pattern, int spread) {
        SliceWright s = full();
        s.set('k', 0);
        s.set('d', spread);
        s.setPattern(pattern);
        return s;
    }

    private static void kind(SliceWright s, String what, int x, int y, int z, char want) {
        Check.same(what + ": kindAt(" + x + ", " + y + ", " + z + ")", s.kindAt(x, y, z), want);
    }

    private static String alongX(SliceWright s, int y, int z) {
        StringBuilder text = new StringBuilder();
        for (int x = 0; x < 12; x++) {
            text.append(s.kindAt(x, y, z));
        }
        return text.toString();
    }

    private static String alongY(SliceWright s, int x, int z) {
        StringBuilder text = new StringBuilder();
        for (int y = 0; y < 12; y++) {
            text.append(s.kindAt(x, y, z));
        }
        return text.toString();
    }

    /** From the bed upwards. */
    private static String column(SliceWright s, int x, int y) {
        StringBuilder text = new StringBuilder();
        for (int z = 0; z < 12; z++) {
            text.append(s.kindAt(x, y, z));
        }
        return text.toString();
    }

    // ---- a new object, box

    private static void nothingAtFirst() {
        Check.about("Creates a body without solid cells");
        for (int z = 0; z < 12; z++) {
            SliceWright s = new SliceWright();
            for (int y = 0; y < 12; y++) {
                Check.same("new, y " + y + ", z " + z, alongX(s, y, z), "............");
            }
            s = new SliceWright();
            for (int cell = 0; cell < 144; cell++) {
                Check.same("laid, cell " + cell + ", z " + z, s.laid(cell % 12, cell / 12, z), 0);
            }
        }
        Check.same("nothing to take", new SliceWright().box(0, 0, 0, 12, 12, 12, false), 0);
        Check.same("all to make", new SliceWright().box(0, 0, 0, 12, 12, 12, true), 1728);
    }

    private static void settingsAtFirst() {
        Check.about("1 at first; .. 'l' at first; .. 3 at first; .. none at first; .. 0 at first; .. 4 at first");
        Check.same("walls", new SliceWright().set('w', 1), 1);
        Check.same("skins", new SliceWright().set('k', 1), 1);
        Check.same("pattern", new SliceWright().setPattern('l'), 'l');
        Check.same("spread", new SliceWright().set('d', 1), 3);
        Check.same("supports", new SliceWright().set('s', 1), 0);
        Check.same("gap", new SliceWright().set('g', 1), 0);
        Check.same("reach", new SliceWright().set('r', 1), 4);
        SliceWright s = new SliceWright();
        for (int z = 0; z < 12; z++) {
            Check.same("thickness of the layer " + z, s.setThickness(z, 2), 1);
            Check.same("pause of the layer " + z, s.setPause(z, true), false);
        }
    }

    private static void firstAndLastPlaces() {
        Check.about("There are cells with the places x, y and z from 0 to 11");
        SliceWright s = new SliceWright();
        for (int corner = 0; corner < 8; corner++) {
            int x = corner % 2 * 11;
            int y = corner / 2 % 2 * 11;
            int z = corner / 4 * 11;
            kind(s, "no corner", x, y, z, '.');
            Check.same("laid in a corner", s.laid(x, y, z), 0);
            Check.same("a corner", s.box(x, y, z, 1, 1, 1, true), 1);
            kind(s, "a corner", x, y, z, 'w');
        }
        Check.same("eight corners", s.box(0, 0, 0, 12, 12, 12, false), 8);
    }

    private static void boxOfOneCell() {
        Check.about("Throws IllegalArgumentException if .. a number is less than 1 (1 is not)");
        SliceWright s = new SliceWright();
        Check.same("one cell", s.box(3, 4, 5, 1, 1, 1, true), 1);
        for (int z = 0; z < 12; z++) {
            Check.same("edges of the layer " + z, s.edges(z), z == 5 ? 4 : 0);
        }
        kind(s, "one cell", 3, 4, 5, 'w');
        Check.same("one cell again", s.box(3, 4, 5, 1, 1, 1, true), 0);
        Check.same("one cell taken", s.box(3, 4, 5, 1, 1, 1, false), 1);
        Check.same("one cell taken again", s.box(3, 4, 5, 1, 1, 1, false), 0);
        kind(s, "one cell taken", 3, 4, 5, '.');
    }

    private static void boxOfAllCells() {
        Check.about("Makes all cells of a box solid, or all not.");
        SliceWright s = new SliceWright();
        Check.same("all", s.box(0, 0, 0, 12, 12, 12, true), 1728);
        Check.same("all again", s.box(0, 0, 0, 12, 12, 12, true), 0);
        Check.same("all taken", s.box(0, 0, 0, 12, 12, 12, false), 1728);
        Check.same("all taken again", s.box(0, 0, 0, 12, 12, 12, false), 0);
    }

    private static void boxToTheLastPlace() {
        Check.about("Throws IllegalArgumentException if .. the box reaches beyond the places (up to the last "
                + "it does not)");
        for (int place = 0; place < 12; place++) {
            int rest = 12 - place;
            Check.same("x " + place, new SliceWright().box(place, 3, 5, rest, 1, 1, true), rest);
            Check.same("y " + place, new SliceWright().box(3, place, 5, 1, rest, 1, true), rest);
            Check.same("z " + place, new SliceWright().box(3, 5, place, 1, 1, rest, true), rest);
            SliceWright s = new SliceWright();
            s.box(place, 3, 5, rest, 1, 1, true);
            Check.same("cells from the x " + place, alongX(s, 3, 5), ".".repeat(place) + "w".repeat(rest));
            s = new SliceWright();
            s.box(3, place, 5, 1, rest, 1, true);
            Check.same("cells from the y " + place, alongY(s, 3, 5), ".".repeat(place) + "w".repeat(rest));
            s = new SliceWright();
            s.box(3, 5, place, 1, 1, rest, true);
            Check.same("cells from the z " + place, column(s, 3, 5), ".".repeat(place) + "w".repeat(rest));
        }
    }

    private static void boxCountsWhatChanges() {
        Check.about("Returns the number of cells that change.");
        SliceWright s = new SliceWright();
        Check.same("a box", s.box(2, 3, 4, 3, 4, 5, true), 60);
        Check.same("a box round it", s.box(1, 2, 3, 5, 6, 7, true), 210 - 60);
        Check.same("none of a box that is not solid", s.box(7, 8, 10, 5, 4, 2, false), 0);
        Check.same("one corner of a box that is", s.box(5, 7, 9, 7, 5, 3, false), 1);
        Check.same("all but this one", s.box(0, 0, 0, 12, 12, 12, true), 1728 - 209);
    }

    // ---- settings

    private static void leastAndGreatestValues() {
        Check.about("The walls, 1 to 3 ..; the skins, 0 to 3 ..; the spread, 1 to 6 ..; the gap, 0 to 2 ..; "
                + "the reach, 0 to 22");
        String letters = "wkdsgr";
        int[] least = {1, 0, 1, 0, 0, 0};
        int[] most = {3, 3, 6, 1, 2, 22};
        for (int i = 0; i < letters.length(); i++) {
            SliceWright s = new SliceWright();
            char letter = letters.charAt(i);
            s.set(letter, least[i]);
            for (int value = least[i]; value <= most[i]; value++) {
                int before = Math.max(value - 1, least[i]);
                Check.same("set " + letter + " to " + value, s.set(letter, value), before);
            }
            Check.same("set " + letter + " to the least", s.set(letter, least[i]), most[i]);
            Check.same("set " + letter + " to the greatest", s.set(letter, most[i]), least[i]);
        }
    }

    private static void oneSettingAtATime() {
        Check.about("Sets a setting. Returns the value before.");
        String letters = "wkdsgr";
        int[] first = {1, 1, 3, 0, 0, 4};
        for (int i = 0; i < letters.length(); i++) {
            SliceWright s = new SliceWright();
            s.set(letters.charAt(i), first[i] == 1 ? 2 : 1);
            for (int other = 0; other < letters.length(); other++) {
                int want = other == i ? first[i] == 1 ? 2 : 1 : first[other];
                char letter = letters.charAt(other);
                Check.same("set " + letter + " behind " + letters.charAt(i), s.set(letter, want), want);
            }
            Check.same("the pattern", s.setPattern('l'), 'l');
            Check.same("the thickness", s.setThickness(1, 1), 1);
        }
    }

    private static void leastAndGreatestThickness() {
        Check.about("for each layer a thickness, 1 to 3, 1 at first");
        SliceWright s = new SliceWright();
        s.box(0, 0, 0, 1, 1, 1, true);
        s.box(0, 0, 11, 1, 1, 1, true);
        for (int thickness = 1; thickness <= 3; thickness++) {
            Check.same("the first layer", s.setThickness(0, thickness), Math.max(thickness - 1, 1));
            Check.same("the last layer", s.setThickness(11, 4 - thickness), thickness == 1 ? 1 : 5 - thickness);
            s.plan();
            Check.same("amount of the first layer", s.numberAt(1, 'a'), 10 * thickness);
            Check.same("amount of the last layer", s.numberAt(3, 'a'), 10 * (4 - thickness));
        }
    }

    private static void thicknessOfEachLayer() {
        Check.about("Sets the thickness of a layer. Returns the thickness before.");
        SliceWright s = new SliceWright();
        for (int z = 0; z < 12; z++) {
            Check.same("at first, layer " + z, s.setThickness(z, 1 + z % 3), 1);
        }
        for (int z = 0; z < 12; z++) {
            Check.same("kept, layer " + z, s.setThickness(z, 3), 1 + z % 3);
            Check.same("now, layer " + z, s.setThickness(z, 3), 3);
        }
    }

    private static void pauseOfEachLayer() {
        Check.about("Tells a pause for a layer, or takes it back. Returns whether there was one.");
        SliceWright s = new SliceWright();
        for (int z = 0; z < 12; z++) {
            Check.same("at first, layer " + z, s.setPause(z, z % 2 == 0), false);
        }
        for (int z = 0; z < 12; z++) {
            Check.same("kept, layer " + z, s.setPause(z, z % 2 != 0), z % 2 == 0);
        }
        for (int z = 0; z < 12; z++) {
            Check.same("turned, layer " + z, s.setPause(z, false), z % 2 != 0);
            Check.same("taken back, layer " + z, s.setPause(z, false), false);
        }
    }

    // ---- neighbours

    private static void rowsDoNotWrapAround() {
        Check.about("Two cells of a layer are neighbours if they differ by 1 in x alone, or in y alone.");
        SliceWright s = new SliceWright();
        s.box(11, 4, 0, 1, 1, 1, true);
        s.box(0, 5, 0, 1, 1, 1, true);
        Check.same("the end of a row and the begin of the next one", s.outer(0), 2);
        s.box(0, 5, 1, 1, 1, 1, true);
        s.box(0, 5, 0, 1, 1, 1, false);
        Check.same("held by the end of the row ahead", s.hanging(1), 1);
        s.box(11, 4, 1, 1, 1, 1, true);
        s.box(0, 5, 0, 1, 1, 1, true);
        s.box(11, 4, 0, 1, 1, 1, false);
        Check.same("held by the begin of the row behind", s.hanging(1), 1);
        s = full();
        kind(s, "the begin of a row", 0, 5, 5, 'w');
        kind(s, "the end of a row", 11, 5, 5, 'w');
        kind(s, "the first row", 5, 0, 5, 'w');
        kind(s, "the last row", 5, 11, 5, 'w');
    }

    private static void layersAreNoNeighbours() {
        Check.about("Two cells of a layer are neighbours ..");
        SliceWright s = new SliceWright();
        s.box(3, 3, 3, 3, 3, 1, true);
        kind(s, "not solid above and below", 4, 4, 3, 'b');
        s.box(4, 4, 4, 1, 1, 1, true);
        kind(s, "above a cell", 4, 4, 4, 'w');
        kind(s, "below a cell", 4, 4, 3, 'b');
        s.box(5, 0, 2, 1, 1, 1, true);
        s.box(5, 11, 1, 1, 1, 1, true);
        Check.same("the last row below and the first one above", s.hanging(2), 1);
        Check.same("outer below", s.outer(1), 1);
        Check.same("outer above", s.outer(2), 1);
    }

    private static void cornersAreNoNeighbours() {
        Check.about("Two cells of a layer are neighbours if they differ by 1 in x alone, or in y alone.");
        SliceWright s = new SliceWright();
        s.box(2, 2, 0, 7, 7, 1, true);
        for (int corner = 0; corner < 4; corner++) {
            int x = corner % 2;
            int y = corner / 2;
            s.box(2 + 6 * x, 2 + 6 * y, 0, 1, 1, 1, false);
            kind(s, "within a corner that is taken", 3 + 4 * x, 3 + 4 * y, 0, 'b');
            s.set('w', 2);
            kind(s, "the second wall", 3 + 4 * x, 3 + 4 * y, 0, 'w');
            kind(s, "within it", 4 + 2 * x, 4 + 2 * y, 0, 'b');
            s.set('w', 1);
        }
    }

    private static void beyondIsNotSolid() {
        Check.about("What is beyond these places is not solid.");
        SliceWright s = full();
        s.set('d', 1);
        for (int z = 0; z < 12; z++) {
            char within = z == 0 ? 'b' : z == 11 ? 't' : 'i';
            for (int place = 0; place < 12; place++) {
                kind(s, "the first y", place, 0, z, 'w');
                kind(s, "the last x", 11, place, z, 'w');
            }
            kind(s, "within", 1, 1, z, within);
            kind(s, "within", 10, 10, z, within);
        }
    }

    // ---- walls

    private static void wallsOfNarrowBodies() {
        Check.about("It is 'w' if it is of a wall whose number is not greater than the walls.");
        for (int walls = 1; walls <= 3; walls++) {
            for (int side = 1; side <= 7; side++) {
                SliceWright s = new SliceWright();
                s.set('w', walls);
                s.box(2, 3, 0, side, side, 1, true);
                boolean isWall = (side + 1) / 2 <= walls;
                kind(s, walls + " walls, side " + side + ", the middle", 2 + side / 2, 3 + side / 2, 0,
                        isWall ? 'w' : 'b');
                kind(s, walls + " walls, side " + side + ", the corner", 2, 3, 0, 'w');
            }
        }
        SliceWright s = full();
        s.set('k', 0);
        s.set('d', 1);
        s.set('w', 3);
        Check.same("three walls", alongX(s, 5, 5), "wwwiiiiiiwww");
        Check.same("the third wall", alongX(s, 2, 5), "wwwwwwwwwwww");
        Check.same("within the third wall", alongX(s, 3, 5), "wwwiiiiiiwww");
        s.set('w', 2);
        Check.same("two walls", alongX(s, 2, 5), "wwiiiiiiiiww");
        s.set('w', 1);
        Check.same("one wall", alongX(s, 1, 5), "wiiiiiiiiiiw");
    }

    private static void wallsBySides() {
        Check.about("A solid cell is of the wall 1 if one of its neighbours in the layer is not solid");
        int[][] sides = {{1, 0}, {-1, 0}, {0, 1}, {0, -1}};
        for (int[] side : sides) {
            SliceWright s = filled('l', 1);
            s.box(5 + side[0], 5 + side[1], 6, 1, 1, 1, false);
            kind(s, "beside a hole", 5, 5, 6, 'w');
            kind(s, "above it", 5, 5, 7, 'i');
            kind(s, "on the other side", 5 - side[0], 5 - side[1], 6, 'i');
            s.set('w', 2);
            kind(s, "on the other side, two walls", 5 - side[0], 5 - side[1], 6, 'w');
            kind(s, "one further, two walls", 5 - 2 * side[0], 5 - 2 * side[1], 6, 'i');
            s.set('w', 3);
            kind(s, "one further, three walls", 5 - 2 * side[0], 5 - 2 * side[1], 6, 'w');
        }
    }

    // ---- skins

    private static void noSkins() {
        Check.about("as many layers down as the skins tell (0: none)");
        SliceWright s = full();
        s.set('k', 0);
        s.set('d', 1);
        Check.same("a full column", column(s, 5, 5), "iiiiiiiiiiii");
        s.box(0, 0, 1, 12, 12, 11, false);
        Check.same("one layer", column(s, 5, 5), "i...........");
    }

    private static void skinsByLayers() {
        Check.about("Otherwise it is 'b' if one of the cells right below it, as many layers down as the skins "
                + "tell, is not solid; otherwise 't' if one of those right above it, as many up, is not.");
        String[] due = {"iiiiii.iiiii", "biiiit.biiit", "bbiitt.bbitt", "bbbttt.bbbtt"};
        SliceWright s = full();
        s.set('d', 1);
        s.box(5, 5, 6, 1, 1, 1, false);
        for (int skins = 0; skins <= 3; skins++) {
            s.set('k', skins);
            Check.same("skins " + skins, column(s, 5, 5), due[skins]);
            Check.same("skins " + skins + " beside", column(s, 5, 4).charAt(6), 'w');
            Check.same("skins " + skins + " above what is beside", column(s, 5, 4).charAt(7), 'i');
        }
    }

    private static void skinsAheadOfPattern() {
        Check.about("Otherwise it is 'b' ..; otherwise 't' ..; otherwise it is 'i', filled, or 'e', left empty");
        SliceWright s = full();
        s.set('d', 6);
        Check.same("bottom", alongX(s, 5, 0), "wbbbbbbbbbbw");
        Check.same("above the bottom", alongX(s, 5, 1), "weeeeeieeeew");
        Check.same("below the top", alongX(s, 5, 10), "weeeeeeeeeew");
        Check.same("top", alongX(s, 5, 11), "wttttttttttw");
        s.box(0, 0, 0, 12, 12, 11, false);
        Check.same("bottom and top at once", alongX(s, 5, 11), "wbbbbbbbbbbw");
    }

    // ---- patterns

    private static void linesBySpread() {
        Check.about("'l' fills those whose y can be divided by d in layers that can be halved, and whose x "
                + "can be divided by d in the others");
        String[] due = {"wiiiiiiiiiiw", "weieieieieiw", "weeieeieeiew", "weeeieeeieew", "weeeeieeeeiw", "weeeeeieeeew"};
        for (int spread = 1; spread <= 6; spread++) {
            SliceWright s = filled('l', spread);
            for (int z : new int[] {0, 4, 10}) {
                Check.same("spread " + spread + " along y", alongY(s, 5, z), due[spread - 1]);
                Check.same("spread " + spread + " along x", alongX(s, 6, z),
                        6 % spread == 0 ? "wiiiiiiiiiiw" : "weeeeeeeeeew");
            }
            for (int z : new int[] {1, 5, 11}) {
                Check.same("spread " + spread + " along x", alongX(s, 5, z), due[spread - 1]);
                Check.same("spread " + spread + " along y", alongY(s, 6, z),
                        6 % spread == 0 ? "wiiiiiiiiiiw" : "weeeeeeeeeew");
            }
        }
    }

    private static void gridBySpread() {
        Check.about("'g' those of which one of both can be divided by d");
        String[] due = {"wiiiiiiiiiiw", "weieieieieiw", "weeieeieeiew", "weeeieeeieew", "weeeeieeeeiw", "weeeeeieeeew"};
        for (int spread = 1; spread <= 6; spread++) {
            SliceWright s = filled('g', spread);
            for (int z : new int[] {0, 5, 11}) {
                for (int place = 1; place <= 10; place++) {
                    String want = place % spread == 0 ? "wiiiiiiiiiiw" : due[spread - 1];
                    Check.same("spread " + spread + ", y " + place, alongX(s, place, z), want);
                }
            }
        }
    }

    /** The spread 3, and each of the rests from 0 to 5. */
    private static void wavesByRest() {
        Check.about("'w' those for which x plus the distance of d from the rest of y + z divided by 2 * d can "
                + "be divided by d");
        SliceWright s = filled('w', 3);
        String[] due = {"weeieeieeiew", "wieeieeieeiw", "weieeieeieew", "weeieeieeiew", "weieeieeieew", "wieeieeieeiw"};
        for (int z : new int[] {0, 4, 7, 11}) {
            for (int y = 1; y <= 10; y += z == 4 ? 1 : 3) {
                Check.same("y " + y + ", z " + z, alongX(s, y, z), due[(y + z) % 6]);
            }
        }
    }

    private static void wavesBySpread() {
        Check.about("'w' those for which x plus the distance of d from the rest of y + z divided by 2 * d can "
                + "be divided by d");
        SliceWright s = filled('w', 6);
        Check.same("the least rest", alongX(s, 10, 2), "weeeeeieeeew");
        Check.same("the rest 1", alongX(s, 1, 0), "wieeeeeieeew");
        Check.same("the rest 6", alongX(s, 5, 1), "weeeeeieeeew");
        Check.same("the greatest rest", alongX(s, 10, 1), "wieeeeeieeew");
        Check.same("the greatest y and z", alongX(s, 10, 11), "weeieeeeeiew");
        s.set('d', 2);
        Check.same("spread 2, the rest 0", alongX(s, 4, 4), "weieieieieiw");
        Check.same("spread 2, the rest 1", alongX(s, 5, 4), "wieieieieiew");
        Check.same("spread 2, the rest 2", alongX(s, 6, 4), "weieieieieiw");
        Check.same("spread 2, the rest 3", alongX(s, 7, 4), "wieieieieiew");
    }

    private static void allFilled() {
        Check.about("The spread, 1 to 6 (all can be divided by 1)");
        for (char pattern : "lgw".toCharArray()) {
            SliceWright s = filled(pattern, 1);
            for (int z = 0; z < 12; z++) {
                Check.same("pattern " + pattern + ", z " + z, alongX(s, 5, z), "wiiiiiiiiiiw");
                Check.same("pattern " + pattern + ", z " + z, alongY(s, 7, z), "wiiiiiiiiiiw");
            }
        }
    }

    // ---- what hangs

    private static void nothingHangsOnTheBed() {
        Check.about("A solid cell above the layer 0 hangs if ..");
        SliceWright s = new SliceWright();
        s.box(0, 0, 0, 12, 12, 1, true);
        Check.same("a whole layer on the bed", s.hanging(0), 0);
        s = new SliceWright();
        s.box(4, 4, 0, 1, 1, 1, true);
        Check.same("one cell on the bed", s.hanging(0), 0);
    }

    private static void hangingInEachLayer() {
        Check.about("Returns the number of solid cells of a layer that hang.");
        for (int z = 1; z < 12; z++) {
            SliceWright s = new SliceWright();
            s.box(0, 0, z, 12, 12, 1, true);
            Check.same("a whole layer at " + z, s.hanging(z), 144);
            Check.same("the layer below", s.hanging(z - 1), 0);
            s.box(0, 0, z - 1, 12, 12, 1, true);
            Check.same("held by a whole layer", s.hanging(z), 0);
            Check.same("the layer below", s.hanging(z - 1), z == 1 ? 0 : 144);
        }
    }

    private static void heldByEachNeighbour() {
        Check.about("hangs if neither the cell below it nor any neighbour of that is solid");
        for (int dx = -2; dx <= 2; dx++) {
            for (int dy = -2; dy <= 2; dy++) {
                SliceWright s = new SliceWright();
                s.box(5, 5, 7, 1, 1, 1, true);
                s.box(5 + dx, 5 + dy, 6, 1, 1, 1, true);
                boolean isHeld = Math.abs(dx) + Math.abs(dy) <= 1;
                Check.same("held at " + dx + ", " + dy, s.hanging(7), isHeld ? 0 : 1);
                s = new SliceWright();
                s.box(5, 5, 7, 1, 1, 1, true);
                s.box(5 + dx, 5 + dy, 5, 1, 1, 1, true);
                s.box(5 + dx, 5 + dy, 8, 1, 1, 1, true);
                Check.same("two below or one above at " + dx + ", " + dy, s.hanging(7), 1);
            }
        }
    }

    private static void hangingAtBorders() {
        Check.about("What is beyond these places is not solid.");
        int[][] ends = {{0, 0, 1, 0}, {0, 0, 0, 1}, {11, 0, 10, 0}, {11, 11, 11, 10}, {0, 11, 1, 11}, {11, 5, 11, 6}};
        for (int[] end : ends) {
            SliceWright s = new SliceWright();
            s.box(end[0], end[1], 11, 1, 1, 1, true);
            Check.same("at the border", s.hanging(11), 1);
            s.box(end[2], end[3], 10, 1, 1, 1, true);
            Check.same("held at the border", s.hanging(11), 0);
        }
    }

    private static void hangingIsSolid() {
        Check.about("A solid cell .. hangs ..");
        SliceWright s = new SliceWright();
        for (int z = 0; z < 12; z++) {
            Check.same("an empty body, layer " + z, s.hanging(z), 0);
        }
        s = full();
        for (int z = 0; z < 12; z++) {
            Check.same("a full body, layer " + z, s.hanging(z), 0);
        }
    }

    // ---- supports

    private static SliceWright floating(int z, int gap) {
        SliceWright s = new SliceWright();
        s.set('s', 1);
        s.set('g', gap);
        s.box(5, 5, z, 1, 1, 1, true);
        return s;
    }

    private static void noSupports() {
        Check.about("With supports, of the cells right below one that hangs ..");
        SliceWright s = floating(3, 0);
        Check.same("with supports", column(s, 5, 5), "sssw........");
        s.set('s', 0);
        Check.same("without", column(s, 5, 5), "...w........");
        Check.same("no stroke", s.strokes(0), 0);
        s.set('s', 1);
        Check.same("with supports again", column(s, 5, 5), "sssw........");
        Check.same("a stroke", s.strokes(0), 1);
    }

    private static void supportsToTheBed() {
        Check.about("the following ones are 's', as long as they are not solid, down to the bed");
        for (int z = 0; z < 12; z++) {
            Check.same("from the layer " + z, column(floating(z, 0), 5, 5),
                    "s".repeat(z) + "w" + ".".repeat(11 - z));
        }
    }

    private static void gapToTheBed() {
        Check.about("the first ones are left out, as many as the gap tells");
        for (int gap = 0; gap <= 2; gap++) {
            for (int z = 0; z < 12; z++) {
                int left = Math.min(gap, z);
                Check.same("gap " + gap + " from the layer " + z, column(floating(z, gap), 5, 5),
                        "s".repeat(z - left) + ".".repeat(left) + "w" + ".".repeat(11 - z));
            }
        }
    }

    /** A cell at the layer 4 that does not hang, below one that does, with some layers between them. */
    private static String aboveHeld(int z, int gap) {
        SliceWright s = floating(z, gap);
        s.box(4, 5, 0, 1, 1, 5, true);
        s.box(5, 5, 4, 1, 1, 1, true);
        return column(s, 5, 5);
    }

    private static void gapThatIsSolid() {
        Check.about("if one of those left out is solid, there are none");
        Check.same("the second one left out is solid", aboveHeld(6, 2), "....w.w.....");
        Check.same("the next one is", aboveHeld(6, 1), "....w.w.....");
        Check.same("none is left out", aboveHeld(6, 0), "....wsw.....");
        Check.same("all between are left out", aboveHeld(7, 2), "....w..w....");
        Check.same("all but one between are left out", aboveHeld(8, 2), "....ws..w...");
        Check.same("held by the cell below", aboveHeld(5, 0), "....ww......");
    }

    private static void supportsEndAboveSolid() {
        Check.about("as long as they are not solid");
        Check.same("not below a cell that does not hang", aboveHeld(11, 0), "....wssssssw");
        SliceWright s = floating(9, 1);
        s.box(5, 5, 4, 1, 1, 1, true);
        Check.same("below one that hangs there are its own", column(s, 5, 5), "sss.wsss.w..");
        s.box(5, 5, 0, 1, 1, 1, true);
        Check.same("on a cell on the bed", column(s, 5, 5), "wss.wsss.w..");
    }

    private static void supportsAtBorders() {
        Check.about("of the cells right below one that hangs .. the following ones are 's' .. down to the bed");
        for (int place = 0; place < 12; place++) {
            for (int end = 0; end < 12; end += 11) {
                SliceWright s = new SliceWright();
                s.set('s', 1);
                s.box(place, end, 11, 1, 1, 1, true);
                Check.same("x " + place + ", y " + end, column(s, place, end), "sssssssssssw");
                s = new SliceWright();
                s.set('s', 1);
                s.box(end, place, 11, 1, 1, 1, true);
                Check.same("x " + end + ", y " + place, column(s, end, place), "sssssssssssw");
            }
        }
        SliceWright s = new SliceWright();
        s.set('s', 1);
        s.box(0, 0, 11, 12, 12, 1, true);
        for (int y = 0; y < 12; y++) {
            Check.same("below a whole layer", alongX(s, y, 10), "ssssssssssss");
            Check.same("below a whole layer", alongX(s, y, 0), "ssssssssssss");
        }
    }

    private static void supportsAreNotSolid() {
        Check.about("A cell is solid or not.");
        SliceWright s = floating(4, 0);
        Check.same("outer of supports", s.outer(3), 0);
        Check.same("edges of supports", s.edges(3), 0);
        Check.same("what is above supports hangs", s.hanging(4), 1);
        Check.same("supports do not hang", s.hanging(3), 0);
        Check.same("all can be made solid", s.box(5, 5, 0, 1, 1, 4, true), 4);
        Check.same("nothing hangs", s.hanging(4), 0);
    }

    private static void allOtherCells() {
        Check.about("All other cells are '.'.");
        SliceWright s = floating(6, 0);
        for (int z = 0; z < 12; z++) {
            String due = z < 6 ? ".....s......" : z == 6 ? ".....w......" : "............";
            Check.same("layer " + z, alongX(s, 5, z), due);
            Check.same("layer " + z + " beside", alongX(s, 4, z), "............");
            Check.same("layer " + z + " beside", alongX(s, 6, z), "............");
        }
    }

    private static void fullBody() {
        Check.about("Returns 'w', 'b', 't', 'i', 'e', 's' or '.' (a full body has no '.' and no 's')");
        for (int supports = 0; supports <= 1; supports++) {
            for (int z = 0; z < 12; z++) {
                SliceWright s = full();
                s.set('s', supports);
                for (int y = 0; y < 12; y++) {
                    char within = z == 0 ? 'b' : z == 11 ? 't' : ' ';
                    String want = y == 0 || y == 11 ? "wwwwwwwwwwww"
                            : within != ' ' ? "w" + String.valueOf(within).repeat(10) + "w"
                            : z % 2 != 0 ? "weeieeieeiew" : y % 3 == 0 ? "wiiiiiiiiiiw" : "weeeeeeeeeew";
                    Check.same("y " + y + ", z " + z, alongX(s, y, z), want);
                }
            }
        }
    }
}

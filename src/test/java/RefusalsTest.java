import java.util.ArrayList;
import java.util.List;
import java.util.NoSuchElementException;

/**
 * All that the document refuses, promise by promise, in each situation in which it is refused: the exception in the
 * document's order, and an object that answers everything behind it as if it had not been asked.
 */
public final class RefusalsTest {
    private static final Class<IllegalArgumentException> ARGUMENT = IllegalArgumentException.class;
    private static final Class<IndexOutOfBoundsException> INDEX = IndexOutOfBoundsException.class;
    private static final Class<IllegalStateException> STATE = IllegalStateException.class;
    private static final Class<NoSuchElementException> MISSING = NoSuchElementException.class;
    private static final Class<ArithmeticException> ARITHMETIC = ArithmeticException.class;
    private static final int MOST = Integer.MAX_VALUE;
    private static final int LEAST = Integer.MIN_VALUE;
    /** The first ones beyond the places on either side, and the last ones of all. */
    private static final int[] NO_PLACES = {-1, 12, -2, 13, LEAST, LEAST + 1, MOST, MOST - 1};

    public static void main(String[] args) {
        situations();
        boxPlaces();
        boxNumbers();
        boxBeyond();
        boxWrapsAround();
        setValues();
        setLetters();
        patternLetters();
        thicknessLayers();
        thicknessValues();
        thicknessOrder();
        pauseLayers();
        cells();
        layers();
        planStates();
        commandPlaces();
        commandsOfNothing();
        numberLetters();
        numberOrder();
        numberMissing();
        targetValues();
        targetStates();
        targetOrder();
        printStates();
        printNothing();
        passTicks();
        goOnStates();
        failStates();
        mendStates();
        resumeStates();
        figures();
        manyInARow();
        Check.end();
    }

    private static void everywhere(String what, Class<? extends RuntimeException> want, Check.Use use) {
        for (Situation situation : Situation.ALL) {
            Check.refusesUnchanged(situation, what, want, use);
        }
    }

    private static void inStates(String states, String what, Class<? extends RuntimeException> want, Check.Use use) {
        for (Situation situation : Situation.in(states)) {
            Check.refusesUnchanged(situation, what, want, use);
        }
    }

    private static void inOne(String what, Class<? extends RuntimeException> want, Check.Use use) {
        for (Situation situation : Situation.ALL) {
            if (situation.toString().equals("drawing")) {
                Check.refusesUnchanged(situation, what, want, use);
            }
        }
    }

    /** All situations are what they say, so that the refusals below are looked for where they are due. */
    private static void situations() {
        Check.about("Returns 'i', 'r', 'w', 'p', 'f' or 'd'.");
        for (Situation situation : Situation.ALL) {
            Check.same(situation + ": state", situation.made().state(), situation.state);
            Check.same(situation + ": commands", situation.made().commands() > 0, situation.hasCommands);
        }
        Check.same("states", Situation.in("irwpfd").size(), Situation.ALL.size());
        for (char state : "irwpfd".toCharArray()) {
            Check.same("situations in " + state, Situation.in(String.valueOf(state)).isEmpty(), false);
        }
    }

    // ---- body and settings

    /** A place and a number of cells along one of the axes, 1 cell at 0 along the others. */
    private static Check.Use box(int axis, int place, int number, boolean isSolid) {
        int[] at = {0, 0, 0};
        int[] cells = {1, 1, 1};
        at[axis] = place;
        cells[axis] = number;
        return s -> s.box(at[0], at[1], at[2], cells[0], cells[1], cells[2], isSolid);
    }

    private static String boxText(int axis, int place, int number) {
        return "box with the " + "xyz".charAt(axis) + " " + place + " and the number " + number;
    }

    private static void boxPlaces() {
        Check.about("Throws IllegalArgumentException if a place is out of range");
        for (int axis = 0; axis < 3; axis++) {
            everywhere(boxText(axis, -1, 1), ARGUMENT, box(axis, -1, 1, true));
            everywhere(boxText(axis, 12, 1), ARGUMENT, box(axis, 12, 1, true));
            for (int place : NO_PLACES) {
                inOne(boxText(axis, place, 1), ARGUMENT, box(axis, place, 1, false));
                inOne(boxText(axis, place, 2), ARGUMENT, box(axis, place, 2, true));
                inOne(boxText(axis, place, 14), ARGUMENT, box(axis, place, 14, true));
            }
        }
    }

    private static void boxNumbers() {
        Check.about("Throws IllegalArgumentException if a number is less than 1");
        for (int axis = 0; axis < 3; axis++) {
            everywhere(boxText(axis, 1, 0), ARGUMENT, box(axis, 1, 0, true));
            for (int number : new int[] {0, -1, -2, LEAST, LEAST + 1}) {
                for (int place : new int[] {0, 1, 11}) {
                    inOne(boxText(axis, place, number), ARGUMENT, box(axis, place, number, true));
                }
            }
            inOne(boxText(axis, 11, -10), ARGUMENT, box(axis, 11, -10, false));
        }
        inOne("box with no number at all", ARGUMENT, s -> s.box(0, 0, 0, 0, 0, 0, false));
    }

    private static void boxBeyond() {
        Check.about("Throws IllegalArgumentException if the box reaches beyond the places");
        for (int axis = 0; axis < 3; axis++) {
            everywhere(boxText(axis, 0, 13), ARGUMENT, box(axis, 0, 13, true));
            everywhere(boxText(axis, 11, 2), ARGUMENT, box(axis, 11, 2, true));
            for (int place = 0; place < 12; place++) {
                inOne(boxText(axis, place, 13 - place), ARGUMENT, box(axis, place, 13 - place, place % 2 == 0));
            }
        }
    }

    private static void boxWrapsAround() {
        Check.about("Throws IllegalArgumentException if the box reaches beyond the places (a sum that wraps around)");
        int[][] wraps = {
            {0, MOST}, {1, MOST}, {11, MOST}, {5, MOST - 4}, {11, MOST - 10}, {11, MOST - 11}, {1, MOST - 1},
            {MOST, MOST}, {MOST, 1}, {MOST, 2}, {MOST, 12}, {MOST - 11, 12}, {LEAST, LEAST}, {LEAST, MOST},
            {LEAST + 5, LEAST + 5}, {LEAST + 1, MOST}, {MOST, LEAST}, {MOST, LEAST + 6}, {-1, 2}, {-1, 13}, {-11, 12},
        };
        for (int axis = 0; axis < 3; axis++) {
            for (int[] wrap : wraps) {
                inOne(boxText(axis, wrap[0], wrap[1]), ARGUMENT, box(axis, wrap[0], wrap[1], true));
            }
            everywhere(boxText(axis, 11, MOST), ARGUMENT, box(axis, 11, MOST, true));
        }
    }

    private static void setValues() {
        Check.about("Throws IllegalArgumentException if there is no such setting, or the value is out of range");
        String letters = "wkdsgr";
        int[] least = {1, 0, 1, 0, 0, 0};
        int[] most = {3, 3, 6, 1, 2, 22};
        for (int i = 0; i < letters.length(); i++) {
            char letter = letters.charAt(i);
            int below = least[i] - 1;
            int above = most[i] + 1;
            everywhere("set " + letter + " " + below, ARGUMENT, s -> s.set(letter, below));
            everywhere("set " + letter + " " + above, ARGUMENT, s -> s.set(letter, above));
            for (int value : new int[] {below - 1, above + 1, -100, 100, 1 << 8, 1 << 16, LEAST, LEAST + 1, MOST}) {
                inOne("set " + letter + " " + value, ARGUMENT, s -> s.set(letter, value));
            }
        }
    }

    private static void setLetters() {
        Check.about("Throws IllegalArgumentException if there is no such setting");
        for (int value : new int[] {0, 1, -1, 3, LEAST, MOST}) {
            everywhere("set q " + value, ARGUMENT, s -> s.set('q', value));
        }
        for (char letter : new char[] {0, 1, 'W', 'K', 'D', 'S', 'G', 'R', 'l', 't', 'p', 'v', 'x', 'w' + 256, 65535}) {
            inOne("set " + (int) letter, ARGUMENT, s -> s.set(letter, 1));
        }
        for (int value = 0; value <= 1; value++) {
            int to = value;
            allLettersBut("wkdsgr", "set, " + to, ARGUMENT, (s, letter) -> s.set(letter, to));
        }
    }

    private static void patternLetters() {
        Check.about("Throws IllegalArgumentException if there is no such pattern");
        everywhere("setPattern q", ARGUMENT, s -> s.setPattern('q'));
        for (char letter : new char[] {0, 1, 'L', 'G', 'W', 'k', 'm', 'f', 'h', 'v', 'x', 'l' + 256, 65535}) {
            inOne("setPattern " + (int) letter, ARGUMENT, s -> s.setPattern(letter));
        }
        allLettersBut("lgw", "setPattern", ARGUMENT, SliceWright::setPattern);
    }

    private interface UseOfLetter {
        Object of(SliceWright object, char letter);
    }

    /** Every char that there is, some hundred to an object. */
    private static void allLettersBut(String letters, String what, Class<? extends RuntimeException> want,
            UseOfLetter use) {
        SliceWright object = new SliceWright();
        for (int sign = 0; sign <= Character.MAX_VALUE; sign++) {
            if (sign % 256 == 0) {
                object = bar();
            }
            char letter = (char) sign;
            SliceWright asked = object;
            if (letters.indexOf(letter) < 0) {
                Check.refuses(what + ", the letter " + sign, want, () -> use.of(asked, letter));
            }
        }
    }

    private static void thicknessLayers() {
        Check.about("setThickness: Throws IndexOutOfBoundsException if there is no such layer");
        everywhere("setThickness of the layer -1", INDEX, s -> s.setThickness(-1, 2));
        everywhere("setThickness of the layer 12", INDEX, s -> s.setThickness(12, 2));
        for (int z : NO_PLACES) {
            inOne("setThickness of the layer " + z, INDEX, s -> s.setThickness(z, 3));
        }
    }

    private static void thicknessValues() {
        Check.about("setThickness: Throws IllegalArgumentException if the thickness is out of range");
        for (int z : new int[] {0, 11}) {
            everywhere("setThickness 0", ARGUMENT, s -> s.setThickness(z, 0));
            everywhere("setThickness 4", ARGUMENT, s -> s.setThickness(z, 4));
            for (int value : new int[] {-1, 5, 257, 65537, LEAST, LEAST + 1, MOST, MOST - 1}) {
                inOne("setThickness " + value, ARGUMENT, s -> s.setThickness(z, value));
            }
        }
    }

    private static void thicknessOrder() {
        Check.about("If several exceptions apply, the one that is documented first is thrown.");
        everywhere("setThickness of the layer 12 to 4", INDEX, s -> s.setThickness(12, 4));
        everywhere("setThickness of the layer -1 to 0", INDEX, s -> s.setThickness(-1, 0));
        inOne("setThickness of the least layer to the least", INDEX, s -> s.setThickness(LEAST, LEAST));
        inOne("setThickness of the greatest layer to the greatest", INDEX, s -> s.setThickness(MOST, MOST));
    }

    private static void pauseLayers() {
        Check.about("setPause: Throws IndexOutOfBoundsException if there is no such layer");
        everywhere("setPause of the layer -1", INDEX, s -> s.setPause(-1, true));
        everywhere("setPause of the layer 12", INDEX, s -> s.setPause(12, true));
        for (int z : NO_PLACES) {
            inOne("setPause of the layer " + z, INDEX, s -> s.setPause(z, true));
            inOne("no pause of the layer " + z, INDEX, s -> s.setPause(z, false));
        }
    }

    private interface UseOfCell {
        Object of(SliceWright object, int x, int y, int z);
    }

    private static void cells() {
        Check.about("kindAt: Throws IndexOutOfBoundsException if there is no such cell");
        noCells("kindAt", SliceWright::kindAt);
        Check.about("laid: Throws IndexOutOfBoundsException if there is no such cell");
        noCells("laid", SliceWright::laid);
    }

    private static void noCells(String what, UseOfCell use) {
        everywhere(what + " of the x -1", INDEX, s -> use.of(s, -1, 0, 0));
        everywhere(what + " of the x 12", INDEX, s -> use.of(s, 12, 0, 0));
        everywhere(what + " of the y -1", INDEX, s -> use.of(s, 0, -1, 0));
        everywhere(what + " of the y 12", INDEX, s -> use.of(s, 0, 12, 0));
        everywhere(what + " of the z -1", INDEX, s -> use.of(s, 0, 0, -1));
        everywhere(what + " of the z 12", INDEX, s -> use.of(s, 0, 0, 12));
        for (int place : NO_PLACES) {
            for (int other : new int[] {1, 11}) {
                inOne(what + " of the x " + place, INDEX, s -> use.of(s, place, other, other));
                inOne(what + " of the y " + place, INDEX, s -> use.of(s, other, place, other));
                inOne(what + " of the z " + place, INDEX, s -> use.of(s, other, other, place));
            }
            inOne(what + " of nothing but " + place, INDEX, s -> use.of(s, place, place, place));
        }
    }

    private interface UseOfLayer {
        Object of(SliceWright object, int z);
    }

    private static void layers() {
        noLayers("hanging", SliceWright::hanging);
        noLayers("outer", SliceWright::outer);
        noLayers("inner", SliceWright::inner);
        noLayers("outlinesByEdges", SliceWright::outlinesByEdges);
        noLayers("edges", SliceWright::edges);
        noLayers("strokes", SliceWright::strokes);
    }

    private static void noLayers(String what, UseOfLayer use) {
        Check.about(what + ": Throws IndexOutOfBoundsException if there is no such layer");
        everywhere(what + " of the layer -1", INDEX, s -> use.of(s, -1));
        everywhere(what + " of the layer 12", INDEX, s -> use.of(s, 12));
        for (int z : NO_PLACES) {
            inOne(what + " of the layer " + z, INDEX, s -> use.of(s, z));
        }
    }

    // ---- strokes and commands

    private static void planStates() {
        Check.about("plan: Throws IllegalStateException if the machine prints, waits, is paused or has failed");
        inStates("rwpf", "plan", STATE, SliceWright::plan);
    }

    /** One 'z', 'p', 'r', 'g', 'u' and 'd'. */
    private static SliceWright bar() {
        SliceWright s = new SliceWright();
        s.box(5, 4, 0, 3, 1, 1, true);
        s.setPause(0, true);
        s.plan();
        return s;
    }

    private static void commandPlaces() {
        Check.about("Throws IndexOutOfBoundsException if there is no such command");
        everywhere("commandAt(-1)", INDEX, s -> s.commandAt(-1));
        everywhere("commandAt behind the last one", INDEX, s -> s.commandAt(s.commands()));
        everywhere("numberAt(-1)", INDEX, s -> s.numberAt(-1, 'x'));
        everywhere("numberAt behind the last one", INDEX, s -> s.numberAt(s.commands(), 'x'));
        for (int command : new int[] {-2, 50, 143, 1728, 6935, 6936, 6937, 100000, LEAST, LEAST + 1, MOST, MOST - 1}) {
            inOne("commandAt(" + command + ")", INDEX, s -> s.commandAt(command));
            inOne("numberAt(" + command + ")", INDEX, s -> s.numberAt(command, 'z'));
        }
        SliceWright s = bar();
        Check.same("commands", s.commands(), 6);
        Check.same("the first command", s.commandAt(0), 'z');
        Check.same("the last command", s.commandAt(5), 'd');
        Check.refuses("the one behind the last", INDEX, () -> s.commandAt(6));
        Check.refuses("the one ahead of the first", INDEX, () -> s.commandAt(-1));
    }

    private static void commandsOfNothing() {
        Check.about("Throws IndexOutOfBoundsException if there is no such command (there are none)");
        for (Situation situation : Situation.ALL) {
            if (!situation.hasCommands) {
                for (int command : new int[] {0, 1, -1}) {
                    Check.refusesUnchanged(situation, "commandAt(" + command + ")", INDEX, s -> s.commandAt(command));
                    Check.refusesUnchanged(situation, "numberAt(" + command + ", z)", INDEX,
                            s -> s.numberAt(command, 'z'));
                    Check.refusesUnchanged(situation, "numberAt(" + command + ", q)", INDEX,
                            s -> s.numberAt(command, 'q'));
                }
            }
        }
    }

    private static void numberLetters() {
        Check.about("numberAt: Throws IllegalArgumentException if there is no such letter");
        for (Situation situation : Situation.ALL) {
            if (situation.hasCommands) {
                Check.refusesUnchanged(situation, "numberAt(0, q)", ARGUMENT, s -> s.numberAt(0, 'q'));
                Check.refusesUnchanged(situation, "numberAt of the last one, q", ARGUMENT,
                        s -> s.numberAt(s.commands() - 1, 'q'));
            }
        }
        for (char letter : new char[] {0, 1, 'X', 'Y', 'A', 'Z', 'w', 'b', '`', '{', 'd', 'x' + 256, 65535}) {
            inOne("numberAt(2, " + (int) letter + ")", ARGUMENT, s -> s.numberAt(2, letter));
        }
        for (int command = 0; command < 6; command++) {
            int asked = command;
            allLettersBut("xyaz", "numberAt of the command " + asked, ARGUMENT,
                    (s, letter) -> s.numberAt(asked, letter));
        }
    }

    private static void numberOrder() {
        Check.about("If several exceptions apply, the one that is documented first is thrown.");
        everywhere("numberAt(-1, q)", INDEX, s -> s.numberAt(-1, 'q'));
        everywhere("numberAt behind the last one, q", INDEX, s -> s.numberAt(s.commands(), 'q'));
        inOne("numberAt of the least, q", INDEX, s -> s.numberAt(LEAST, 'q'));
        inOne("numberAt of the greatest, q", INDEX, s -> s.numberAt(MOST, 'q'));
        inOne("numberAt of the one behind the last, for a number that it could not have", INDEX,
                s -> s.numberAt(s.commands(), 'a'));
        SliceWright s = bar();
        for (int command = 0; command < 6; command++) {
            int asked = command;
            Check.refuses("no such letter goes ahead of no such number of the command " + asked, ARGUMENT,
                    () -> s.numberAt(asked, 'q'));
        }
    }

    private static void numberMissing() {
        Check.about("numberAt: Throws NoSuchElementException if the command does not have it");
        for (Situation situation : Situation.ALL) {
            if (situation.hasCommands) {
                Check.refusesUnchanged(situation, "numberAt(0, x)", MISSING, s -> s.numberAt(0, 'x'));
                Check.refusesUnchanged(situation, "numberAt(0, y)", MISSING, s -> s.numberAt(0, 'y'));
                Check.refusesUnchanged(situation, "numberAt(0, a)", MISSING, s -> s.numberAt(0, 'a'));
                Check.refusesUnchanged(situation, "numberAt(1, a)", MISSING, s -> s.numberAt(1, 'a'));
                Check.refusesUnchanged(situation, "numberAt(1, z)", MISSING, s -> s.numberAt(1, 'z'));
                Check.refusesUnchanged(situation, "numberAt(2, z)", MISSING, s -> s.numberAt(2, 'z'));
            }
        }
        SliceWright s = bar();
        String[] there = {"z", "", "", "xy", "", "xya"};
        for (int command = 0; command < 6; command++) {
            int asked = command;
            Check.same("command " + command, s.commandAt(command), "zprgud".charAt(command));
            for (char letter : "xyaz".toCharArray()) {
                if (there[command].indexOf(letter) < 0) {
                    Check.refuses("numberAt(" + asked + ", " + letter + ")", MISSING,
                            () -> s.numberAt(asked, letter));
                }
            }
        }
    }

    // ---- the machine

    private static void targetValues() {
        Check.about("setTarget: Throws IllegalArgumentException if it is out of range");
        everywhere("setTarget(-1)", ARGUMENT, s -> s.setTarget(-1));
        everywhere("setTarget(301)", ARGUMENT, s -> s.setTarget(301));
        for (int target : new int[] {-2, 302, 1 << 16, LEAST, LEAST + 1, LEAST + 200, MOST, MOST - 1}) {
            inOne("setTarget(" + target + ")", ARGUMENT, s -> s.setTarget(target));
        }
    }

    private static void targetStates() {
        Check.about("setTarget: Throws IllegalStateException if the machine has failed");
        for (int target : new int[] {0, 1, 150, 200, 300}) {
            inStates("f", "setTarget(" + target + ")", STATE, s -> s.setTarget(target));
        }
    }

    private static void targetOrder() {
        Check.about("If several exceptions apply, the one that is documented first is thrown.");
        for (int target : new int[] {-1, 301, LEAST, MOST}) {
            inStates("f", "setTarget(" + target + ")", ARGUMENT, s -> s.setTarget(target));
        }
    }

    private static void printStates() {
        Check.about("print: Throws IllegalStateException if the machine prints, waits, is paused or has failed");
        inStates("rwpf", "print", STATE, SliceWright::print);
    }

    private static void printNothing() {
        Check.about("print: Throws IllegalStateException if .. there are no commands");
        for (Situation situation : Situation.ALL) {
            if (!situation.hasCommands) {
                Check.refusesUnchanged(situation, "print", STATE, SliceWright::print);
            }
        }
    }

    private static void passTicks() {
        Check.about("pass: Throws IllegalArgumentException if the number is out of range");
        everywhere("pass(0)", ARGUMENT, s -> s.pass(0));
        everywhere("pass(201)", ARGUMENT, s -> s.pass(201));
        for (int ticks : new int[] {-1, -200, 202, 256, 65537, LEAST, LEAST + 1, MOST, MOST - 1}) {
            inOne("pass(" + ticks + ")", ARGUMENT, s -> s.pass(ticks));
        }
    }

    private static void goOnStates() {
        Check.about("goOn: Throws IllegalStateException if the machine is not paused");
        inStates("irwfd", "goOn", STATE, SliceWright::goOn);
    }

    private static void failStates() {
        Check.about("fail: Throws IllegalStateException if it has failed");
        inStates("f", "fail", STATE, SliceWright::fail);
    }

    private static void mendStates() {
        Check.about("mend: Throws IllegalStateException if it has not failed");
        inStates("irwpd", "mend", STATE, SliceWright::mend);
    }

    private static void resumeStates() {
        Check.about("resume: Throws IllegalStateException if the state is not 'i'");
        inStates("rwpfd", "resume", STATE, SliceWright::resume);
        Check.about("resume: Throws IllegalStateException if no print was cut since the last planning and the "
                + "last print");
        for (Situation situation : Situation.in("i")) {
            if (!situation.isCut) {
                Check.refusesUnchanged(situation, "resume", STATE, SliceWright::resume);
            }
        }
    }

    // ---- figures

    private static void figures() {
        for (Situation situation : Situation.ALL) {
            String name = situation.toString();
            if (name.equals("new") || name.equals("emptied")) {
                Check.about("emptyShare: Throws ArithmeticException if there are no solid cells");
                Check.refusesUnchanged(situation, "emptyShare", ARITHMETIC, SliceWright::emptyShare);
                Check.about("meanStroke: Throws ArithmeticException if there are none");
                Check.refusesUnchanged(situation, "meanStroke", ARITHMETIC, SliceWright::meanStroke);
            }
        }
    }

    /** Refusals in a row, on one object, do not add up to anything either. */
    private static void manyInARow() {
        Check.about("A method that throws an exception changes nothing.");
        List<Check.Use> all = new ArrayList<>(List.of(
                s -> s.box(12, 0, 0, 1, 1, 1, true), s -> s.box(0, 0, 0, 12, 12, 13, true),
                s -> s.box(11, 11, 11, 1, 2, 1, false), s -> s.set('w', 4), s -> s.set('d', 0), s -> s.set('q', 0),
                s -> s.setPattern('q'), s -> s.setThickness(0, 4), s -> s.setThickness(12, 3),
                s -> s.setPause(12, true), s -> s.kindAt(0, 0, 12), s -> s.hanging(12), s -> s.outer(12),
                s -> s.inner(12), s -> s.outlinesByEdges(12), s -> s.edges(12), s -> s.strokes(12)));
        all.addAll(List.of(s -> s.commandAt(-1), s -> s.numberAt(-1, 'x'), s -> s.numberAt(0, 'q'),
                s -> s.numberAt(0, 'x'), s -> s.setTarget(301), s -> s.pass(0), s -> s.pass(201),
                s -> s.laid(0, 12, 0)));
        for (Situation situation : Situation.ALL) {
            for (Probe probe : Probe.values()) {
                SliceWright object = situation.made();
                for (Check.Use use : all) {
                    Check.same(situation + ": refused", Check.answerOf(() -> use.of(object)) instanceof Class<?>, true);
                }
                Check.same(situation + ": behind all of them, " + probe, probe.tell(object), situation.told(probe));
            }
        }
    }
}

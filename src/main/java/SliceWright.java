import java.util.Arrays;
import java.util.NoSuchElementException;

/**
 * A way from a body of cells to a print: its layers are cut into strokes, these are planned into commands, and a
 * machine does the commands tick by tick. The document of the class tells what each call promises.
 */
public final class SliceWright {
    private static final int SIDE = 12;
    private static final int LAYER_CELLS = SIDE * SIDE;
    private static final int ALL_CELLS = SIDE * LAYER_CELLS;
    /** A layer has 'z' and 'p'; each of its cells may be a stroke of its own, with 'r', 'g', 'u' and 'd'. */
    private static final int MOST_COMMANDS = SIDE * (2 + 4 * LAYER_CELLS);
    private static final int MOST_TARGET = 300;
    private static final int MOST_TICKS = 200;
    private static final int MOST_THICKNESS = 3;

    /** The four ways to a neighbour, each a turn to the left of the one ahead of it. */
    private static final int WAYS = 4;
    private static final int[] STEP_X = {1, 0, -1, 0};
    private static final int[] STEP_Y = {0, 1, 0, -1};

    private final Body body;
    private final Settings settings;
    private final Kinds kinds;
    private final Outlines outlines;
    private final Strokes layerStrokes;
    private final Commands commandList;
    private final Planner planner;
    private final Heat heat;
    private final Machine machine;

    public SliceWright() {
        body = new Body();
        settings = new Settings();
        kinds = new Kinds(body, settings);
        outlines = new Outlines(body);
        layerStrokes = new Strokes(kinds);
        commandList = new Commands();
        planner = new Planner(settings, layerStrokes, commandList);
        heat = new Heat();
        machine = new Machine(commandList, heat);
    }

    // ---- body and settings

    public int box(int x, int y, int z, int dx, int dy, int dz, boolean isSolid) throws IllegalArgumentException {
        if (!isSpan(x, dx) || !isSpan(y, dy) || !isSpan(z, dz)) {
            throw new IllegalArgumentException("the box is not within the places");
        }
        kinds.forgetAll();
        int changed = 0;
        for (int layer = z; layer < z + dz; layer++) {
            changed += body.changeLayer(x, y, layer, dx, dy, isSolid);
        }
        return changed;
    }

    public int set(char setting, int value) throws IllegalArgumentException {
        if (!Settings.isAllowed(setting, value)) {
            throw new IllegalArgumentException("no such setting, or its value is out of range");
        }
        kinds.forgetAll();
        return settings.changeNumber(setting, value);
    }

    public char setPattern(char pattern) throws IllegalArgumentException {
        if (pattern != 'l' && pattern != 'g' && pattern != 'w') {
            throw new IllegalArgumentException("no such pattern");
        }
        kinds.forgetAll();
        return settings.changePattern(pattern);
    }

    public int setThickness(int z, int thickness) throws IndexOutOfBoundsException, IllegalArgumentException {
        requireLayer(z);
        if (thickness < 1 || thickness > MOST_THICKNESS) {
            throw new IllegalArgumentException("the thickness is out of range");
        }
        return settings.changeThickness(z, thickness);
    }

    public boolean setPause(int z, boolean isPause) throws IndexOutOfBoundsException {
        requireLayer(z);
        return settings.changePause(z, isPause);
    }

    public char kindAt(int x, int y, int z) throws IndexOutOfBoundsException {
        requireCell(x, y, z);
        kinds.findLayer(z);
        return kinds.kindOf(x, y, z);
    }

    public int hanging(int z) throws IndexOutOfBoundsException {
        requireLayer(z);
        return body.countHanging(z);
    }

    public int outer(int z) throws IndexOutOfBoundsException {
        requireLayer(z);
        return outlines.countSets(z, true);
    }

    public int inner(int z) throws IndexOutOfBoundsException {
        requireLayer(z);
        return outlines.countSets(z, false);
    }

    public int outlinesByEdges(int z) throws IndexOutOfBoundsException {
        requireLayer(z);
        return outlines.countRounds(z);
    }

    public int edges(int z) throws IndexOutOfBoundsException {
        requireLayer(z);
        return outlines.countEdges(z);
    }

    // ---- strokes and commands

    public int strokes(int z) throws IndexOutOfBoundsException {
        requireLayer(z);
        kinds.findLayer(z);
        layerStrokes.collect(z);
        return layerStrokes.size();
    }

    public int plan() throws IllegalStateException {
        if (machine.isBusy()) {
            throw new IllegalStateException("the machine is not free");
        }
        kinds.findAll();
        planner.makeCommands();
        machine.rest();
        return commandList.size();
    }

    public int commands() {
        return commandList.size();
    }

    public char commandAt(int command) throws IndexOutOfBoundsException {
        requireCommand(command);
        return commandList.kindOf(command);
    }

    public int numberAt(int command, char number)
            throws IndexOutOfBoundsException, IllegalArgumentException, NoSuchElementException {
        requireCommand(command);
        if (number != 'x' && number != 'y' && number != 'a' && number != 'z') {
            throw new IllegalArgumentException("no such letter");
        }
        if (!commandList.hasNumber(command, number)) {
            throw new NoSuchElementException("the command does not have this number");
        }
        return commandList.numberOf(command, number);
    }

    public int travel() {
        return commandList.travelled();
    }

    public long planned() {
        return commandList.amountInAll();
    }

    // ---- the machine

    public int setTarget(int target) throws IllegalArgumentException, IllegalStateException {
        if (target < 0 || target > MOST_TARGET) {
            throw new IllegalArgumentException("the target is out of range");
        }
        if (machine.currentState() == 'f') {
            throw new IllegalStateException("the machine has failed");
        }
        return heat.changeTarget(target);
    }

    public int print() throws IllegalStateException {
        if (machine.isBusy() || commandList.size() == 0) {
            throw new IllegalStateException("the machine is not free, or has no commands");
        }
        machine.beginPrint();
        return commandList.size();
    }

    public int pass(int ticks) throws IllegalArgumentException {
        if (ticks < 1 || ticks > MOST_TICKS) {
            throw new IllegalArgumentException("the number of ticks is out of range");
        }
        return machine.passTicks(ticks);
    }

    public int goOn() throws IllegalStateException {
        if (machine.currentState() != 'p') {
            throw new IllegalStateException("the machine is not paused");
        }
        machine.endPause();
        return commandList.size() - machine.nextCommand();
    }

    public char fail() throws IllegalStateException {
        if (machine.currentState() == 'f') {
            throw new IllegalStateException("the machine has failed");
        }
        return machine.beginFailure();
    }

    public char mend() throws IllegalStateException {
        if (machine.currentState() != 'f') {
            throw new IllegalStateException("the machine has not failed");
        }
        return machine.endFailure();
    }

    public char cut() {
        return machine.cutPower();
    }

    public int resume() throws IllegalStateException {
        if (!machine.canResume()) {
            throw new IllegalStateException("the machine is not idle, or no print was cut");
        }
        return machine.resumePrint();
    }

    public char state() {
        return machine.currentState();
    }

    public int next() {
        return machine.nextCommand();
    }

    public int speed() {
        return machine.currentSpeed();
    }

    public int temperature() {
        return heat.currentTemperature();
    }

    public long time() {
        return machine.ticksPassed();
    }

    public int laid(int x, int y, int z) throws IndexOutOfBoundsException {
        requireCell(x, y, z);
        return machine.laidIn(x, y, z);
    }

    public long laidInAll() {
        return machine.sumOfLaid();
    }

    // ---- figures

    public float emptyShare() throws ArithmeticException {
        int solids = body.countSolid();
        if (solids == 0) {
            throw new ArithmeticException("there are no solid cells");
        }
        kinds.findAll();
        return (float) kinds.countEmpty() / (float) solids;
    }

    public double meanStroke() throws ArithmeticException {
        kinds.findAll();
        int number = 0;
        int cells = 0;
        for (int z = 0; z < SIDE; z++) {
            layerStrokes.collect(z);
            number += layerStrokes.size();
            cells += layerStrokes.countCells();
        }
        if (number == 0) {
            throw new ArithmeticException("there are no strokes");
        }
        return (double) cells / (double) number;
    }

    // ---- what calls require

    private static void requireLayer(int z) {
        if (!isPlace(z)) {
            throw new IndexOutOfBoundsException("no such layer");
        }
    }

    private static void requireCell(int x, int y, int z) {
        if (!isCell(x, y, z)) {
            throw new IndexOutOfBoundsException("no such cell");
        }
    }

    private void requireCommand(int command) {
        if (!commandList.has(command)) {
            throw new IndexOutOfBoundsException("no such command");
        }
    }

    // ---- places

    private static boolean isPlace(int place) {
        return place >= 0 && place < SIDE;
    }

    private static boolean isCell(int x, int y, int z) {
        return x >= 0 && x < SIDE && y >= 0 && y < SIDE && z >= 0 && z < SIDE;
    }

    /** The length is held against what is left, for their sum could wrap around. */
    private static boolean isSpan(int first, int length) {
        return isPlace(first) && length >= 1 && length <= SIDE - first;
    }

    private static int indexOf(int x, int y, int z) {
        return z * LAYER_CELLS + y * SIDE + x;
    }

    private static boolean canBeHalved(int z) {
        return z % 2 == 0;
    }

    private static int distance(int x, int y, int otherX, int otherY) {
        return Math.abs(otherX - x) + Math.abs(otherY - y);
    }

    private static int signOf(int number) {
        return number > 0 ? 1 : number < 0 ? -1 : 0;
    }

    /** The cells that are solid. */
    private static final class Body {
        private final boolean[] solid;

        Body() {
            solid = new boolean[ALL_CELLS];
        }

        /** What is beyond the places is not solid. */
        boolean isSolid(int x, int y, int z) {
            return isCell(x, y, z) && solid[indexOf(x, y, z)];
        }

        int changeLayer(int x, int y, int z, int dx, int dy, boolean isSolid) {
            int changed = 0;
            for (int atY = y; atY < y + dy; atY++) {
                for (int atX = x; atX < x + dx; atX++) {
                    if (isCell(atX, atY, z) && isSolid(atX, atY, z) != isSolid) {
                        solid[indexOf(atX, atY, z)] = isSolid;
                        changed++;
                    }
                }
            }
            return changed;
        }

        int countSolid() {
            int count = 0;
            for (int cell = 0; cell < solid.length; cell++) {
                if (solid[cell]) {
                    count++;
                }
            }
            return count;
        }

        int countHanging(int z) {
            int count = 0;
            for (int y = 0; y < SIDE; y++) {
                for (int x = 0; x < SIDE; x++) {
                    if (hangs(x, y, z)) {
                        count++;
                    }
                }
            }
            return count;
        }

        boolean hangs(int x, int y, int z) {
            if (z == 0 || !isSolid(x, y, z) || isSolid(x, y, z - 1)) {
                return false;
            }
            for (int way = 0; way < WAYS; way++) {
                if (isSolid(x + STEP_X[way], y + STEP_Y[way], z - 1)) {
                    return false;
                }
            }
            return true;
        }

        /** Whether one of the cells right below, or right above with the step 1, is not solid. */
        boolean isOpen(int x, int y, int z, int step, int layers) {
            for (int i = 1; i <= layers; i++) {
                if (!isSolid(x, y, z + i * step)) {
                    return true;
                }
            }
            return false;
        }

        /** The layer of the first solid cell right above, or that beyond all layers, where no cell hangs. */
        int firstSolidAbove(int x, int y, int z) {
            for (int above = z + 1; above < SIDE; above++) {
                if (isSolid(x, y, above)) {
                    return above;
                }
            }
            return SIDE;
        }
    }

    /** What is set, for all layers and for each of them. */
    private static final class Settings {
        private int walls = 1;
        private int skins = 1;
        private int spread = 3;
        private int supports = 0;
        private int gap = 0;
        private int reach = 4;
        private char pattern = 'l';
        private final int[] thickness;
        private final boolean[] pause;

        Settings() {
            thickness = new int[SIDE];
            pause = new boolean[SIDE];
            Arrays.fill(thickness, 1);
        }

        static boolean isAllowed(char setting, int value) {
            int least = setting == 'w' || setting == 'd' ? 1 : 0;
            return value >= least && value <= greatestOf(setting);
        }

        /** A setting that is not there allows no value. */
        private static int greatestOf(char setting) {
            switch (setting) {
                case 'w':
                case 'k':
                    return 3;
                case 'd':
                    return 6;
                case 's':
                    return 1;
                case 'g':
                    return 2;
                case 'r':
                    return 22;
                default:
                    return -1;
            }
        }

        int changeNumber(char setting, int value) {
            int before = numberOf(setting);
            switch (setting) {
                case 'w':
                    walls = value;
                    break;
                case 'k':
                    skins = value;
                    break;
                case 'd':
                    spread = value;
                    break;
                case 's':
                    supports = value;
                    break;
                case 'g':
                    gap = value;
                    break;
                default:
                    reach = value;
                    break;
            }
            return before;
        }

        private int numberOf(char setting) {
            switch (setting) {
                case 'w':
                    return walls;
                case 'k':
                    return skins;
                case 'd':
                    return spread;
                case 's':
                    return supports;
                case 'g':
                    return gap;
                default:
                    return reach;
            }
        }

        char changePattern(char value) {
            char before = pattern;
            pattern = value;
            return before;
        }

        int changeThickness(int z, int value) {
            int before = thicknessOf(z);
            if (isPlace(z)) {
                thickness[z] = value;
            }
            return before;
        }

        boolean changePause(int z, boolean isPause) {
            boolean before = hasPause(z);
            if (isPlace(z)) {
                pause[z] = isPause;
            }
            return before;
        }

        int thicknessOf(int z) {
            return isPlace(z) ? thickness[z] : 1;
        }

        boolean hasPause(int z) {
            return isPlace(z) && pause[z];
        }

        int wallCount() {
            return walls;
        }

        int skinCount() {
            return skins;
        }

        boolean hasSupports() {
            return supports != 0;
        }

        int gapSize() {
            return gap;
        }

        int reachLength() {
            return reach;
        }

        /** Whether the pattern fills a cell within walls and skins. */
        boolean fills(int x, int y, int z) {
            switch (pattern) {
                case 'l':
                    return isLine(canBeHalved(z) ? y : x);
                case 'g':
                    return isLine(x) || isLine(y);
                default:
                    return isLine(x + waveAt(y + z));
            }
        }

        private boolean isLine(int place) {
            return spread > 0 && place % spread == 0;
        }

        private int waveAt(int place) {
            int period = 2 * spread;
            return period > 0 ? Math.abs(spread - place % period) : 0;
        }
    }

    /** The kinds of the cells, found anew for a layer before it is used behind a change. */
    private static final class Kinds {
        private final Body body;
        private final Settings settings;
        private final char[] kind;
        private final boolean[] isKnown;
        /** The wall of each cell of the layer that is being looked at, 0 for none so far. */
        private final int[] wall;

        Kinds(Body body, Settings settings) {
            this.body = body;
            this.settings = settings;
            kind = new char[ALL_CELLS];
            isKnown = new boolean[SIDE];
            wall = new int[LAYER_CELLS];
        }

        void forgetAll() {
            for (int z = 0; z < isKnown.length; z++) {
                isKnown[z] = false;
            }
        }

        /** The kind as it was found last; what is beyond the places is of no kind. */
        char kindOf(int x, int y, int z) {
            return isCell(x, y, z) ? kind[indexOf(x, y, z)] : '.';
        }

        int countEmpty() {
            int count = 0;
            for (int cell = 0; cell < kind.length; cell++) {
                if (kind[cell] == 'e') {
                    count++;
                }
            }
            return count;
        }

        void findAll() {
            for (int z = 0; z < SIDE; z++) {
                findLayer(z);
            }
        }

        void findLayer(int z) {
            if (!isPlace(z) || isKnown[z]) {
                return;
            }
            findWalls(z);
            for (int y = 0; y < SIDE; y++) {
                for (int x = 0; x < SIDE; x++) {
                    kind[indexOf(x, y, z)] = body.isSolid(x, y, z) ? solidKind(x, y, z) : '.';
                }
            }
            if (settings.hasSupports()) {
                findSupports(z);
            }
            isKnown[z] = true;
        }

        private void findWalls(int z) {
            Arrays.fill(wall, 0);
            for (int number = 1; number <= settings.wallCount(); number++) {
                for (int y = 0; y < SIDE; y++) {
                    for (int x = 0; x < SIDE; x++) {
                        if (body.isSolid(x, y, z) && wallAt(x, y) == 0 && touches(x, y, z, number - 1)) {
                            wall[indexOf(x, y, 0)] = number;
                        }
                    }
                }
            }
        }

        /** Whether a neighbour is of this wall; what is not solid stands ahead of the wall 1. */
        private boolean touches(int x, int y, int z, int number) {
            for (int way = 0; way < WAYS; way++) {
                int atX = x + STEP_X[way];
                int atY = y + STEP_Y[way];
                if (number == 0 ? !body.isSolid(atX, atY, z) : wallAt(atX, atY) == number) {
                    return true;
                }
            }
            return false;
        }

        private int wallAt(int x, int y) {
            return isCell(x, y, 0) ? wall[indexOf(x, y, 0)] : 0;
        }

        private char solidKind(int x, int y, int z) {
            if (wallAt(x, y) > 0) {
                return 'w';
            }
            if (body.isOpen(x, y, z, -1, settings.skinCount())) {
                return 'b';
            }
            if (body.isOpen(x, y, z, 1, settings.skinCount())) {
                return 't';
            }
            return settings.fills(x, y, z) ? 'i' : 'e';
        }

        private void findSupports(int z) {
            for (int y = 0; y < SIDE; y++) {
                for (int x = 0; x < SIDE; x++) {
                    if (!body.isSolid(x, y, z) && isSupport(x, y, z)) {
                        kind[indexOf(x, y, z)] = 's';
                    }
                }
            }
        }

        /** Whether the first solid cell above hangs, and the gap below it ends above this cell. */
        private boolean isSupport(int x, int y, int z) {
            int above = body.firstSolidAbove(x, y, z);
            return above - z > settings.gapSize() && body.hangs(x, y, above);
        }
    }

    /** The outlines of a layer, counted by sets of cells and by going along edges. */
    private static final class Outlines {
        /** Edges run between corners of cells, of which there is one more along a side than cells. */
        private static final int CORNERS = SIDE + 1;
        private static final int MOST_EDGES = CORNERS * CORNERS * WAYS;
        /** The cell to the left of an edge that leaves a corner, for each way. */
        private static final int[] LEFT_X = {0, -1, -1, 0};
        private static final int[] LEFT_Y = {0, 0, -1, -1};

        private final Body body;
        private final boolean[] isSeen;
        /** The cells of the set that is being found. */
        private final int[] found;
        private int foundCount;
        private final boolean[] isGone;

        Outlines(Body body) {
            this.body = body;
            isSeen = new boolean[LAYER_CELLS];
            found = new int[LAYER_CELLS];
            isGone = new boolean[MOST_EDGES];
        }

        /** Sets that are not solid are left out if they go on beyond the layer: these have no outline of their own. */
        int countSets(int z, boolean isSolid) {
            forgetSeen();
            int count = 0;
            for (int cell = 0; cell < LAYER_CELLS; cell++) {
                foundCount = 0;
                if (note(cell % SIDE, cell / SIDE, z, isSolid)) {
                    boolean isAtBorder = completeSet(z, isSolid);
                    if (isSolid || !isAtBorder) {
                        count++;
                    }
                }
            }
            return count;
        }

        private void forgetSeen() {
            for (int cell = 0; cell < isSeen.length; cell++) {
                isSeen[cell] = false;
            }
        }

        /** Takes a cell into the set that is being found, if it is alike and in no set so far. */
        private boolean note(int x, int y, int z, boolean isSolid) {
            if (!isCell(x, y, z) || body.isSolid(x, y, z) != isSolid) {
                return false;
            }
            int cell = indexOf(x, y, 0);
            if (isSeen[cell] || foundCount >= found.length) {
                return false;
            }
            isSeen[cell] = true;
            found[foundCount] = cell;
            foundCount++;
            return true;
        }

        /** Adds all that hangs together with the cells found, and tells whether the set has a cell at the border. */
        private boolean completeSet(int z, boolean isSolid) {
            boolean isAtBorder = false;
            for (int at = 0; at < foundCount && at < found.length; at++) {
                int x = found[at] % SIDE;
                int y = found[at] / SIDE;
                isAtBorder = isAtBorder || isAtEnd(x) || isAtEnd(y);
                noteAround(x, y, z, isSolid);
            }
            return isAtBorder;
        }

        private static boolean isAtEnd(int place) {
            return place == 0 || place == SIDE - 1;
        }

        /** Solid cells hang together over neighbours alone, the others over corners too. */
        private void noteAround(int x, int y, int z, boolean isSolid) {
            for (int way = 0; way < WAYS; way++) {
                int nextX = x + STEP_X[way];
                int nextY = y + STEP_Y[way];
                note(nextX, nextY, z, isSolid);
                if (!isSolid) {
                    int left = turned(way, 1);
                    note(nextX + STEP_X[left], nextY + STEP_Y[left], z, false);
                }
            }
        }

        int countEdges(int z) {
            int count = 0;
            for (int edge = 0; edge < MOST_EDGES; edge++) {
                if (isEdge(cornerX(edge), cornerY(edge), wayOf(edge), z)) {
                    count++;
                }
            }
            return count;
        }

        int countRounds(int z) {
            for (int edge = 0; edge < isGone.length; edge++) {
                isGone[edge] = false;
            }
            int count = 0;
            for (int edge = 0; edge < isGone.length; edge++) {
                if (!isGone[edge] && isEdge(cornerX(edge), cornerY(edge), wayOf(edge), z)) {
                    goRound(edge, z);
                    count++;
                }
            }
            return count;
        }

        /** Goes along edges until one is met that was gone before, which is the one it began with. */
        private void goRound(int firstEdge, int z) {
            int x = cornerX(firstEdge);
            int y = cornerY(firstEdge);
            int way = wayOf(firstEdge);
            for (int step = 0; step < MOST_EDGES; step++) {
                int edge = edgeOf(x, y, way);
                if (edge < 0 || edge >= isGone.length || isGone[edge]) {
                    return;
                }
                isGone[edge] = true;
                x += STEP_X[way];
                y += STEP_Y[way];
                way = wayOn(x, y, way, z);
            }
        }

        /** The left is tried first, so that solid cells that meet at a corner alone stay apart. */
        private int wayOn(int x, int y, int way, int z) {
            for (int turn = 1; turn >= -1; turn--) {
                int tried = turned(way, turn);
                if (isEdge(x, y, tried, z)) {
                    return tried;
                }
            }
            return way;
        }

        private boolean isEdge(int x, int y, int way, int z) {
            if (!isWay(way)) {
                return false;
            }
            int right = turned(way, -1);
            return body.isSolid(x + LEFT_X[way], y + LEFT_Y[way], z)
                    && !body.isSolid(x + LEFT_X[right], y + LEFT_Y[right], z);
        }

        /** The way behind some turns to the left; always one of the four. */
        private static int turned(int way, int turns) {
            return (way + turns) & (WAYS - 1);
        }

        private static int edgeOf(int x, int y, int way) {
            if (x < 0 || x >= CORNERS || y < 0 || y >= CORNERS || !isWay(way)) {
                return -1;
            }
            return (y * CORNERS + x) * WAYS + way;
        }

        private static boolean isWay(int way) {
            return way >= 0 && way < WAYS;
        }

        private static int cornerX(int edge) {
            return edge / WAYS % CORNERS;
        }

        private static int cornerY(int edge) {
            return edge / WAYS / CORNERS;
        }

        private static int wayOf(int edge) {
            return edge & (WAYS - 1);
        }
    }

    /** The strokes of one layer, in the order of their numbers, by kinds that were found ahead of this. */
    private static final class Strokes {
        private static final char[] KIND_ORDER = {'w', 'b', 't', 'i', 's'};

        private final Kinds kinds;
        private final char[] kind;
        private final int[] firstX;
        private final int[] firstY;
        private final int[] lastX;
        private final int[] lastY;
        private int count;

        Strokes(Kinds kinds) {
            this.kinds = kinds;
            kind = new char[LAYER_CELLS];
            firstX = new int[LAYER_CELLS];
            firstY = new int[LAYER_CELLS];
            lastX = new int[LAYER_CELLS];
            lastY = new int[LAYER_CELLS];
        }

        void collect(int z) {
            count = 0;
            for (int number = 0; number < KIND_ORDER.length; number++) {
                for (int across = 0; across < SIDE; across++) {
                    collectRow(KIND_ORDER[number], across, z);
                }
            }
        }

        private void collectRow(char wanted, int across, int z) {
            int begin = -1;
            for (int along = 0; along <= SIDE; along++) {
                boolean isWanted = kindOn(along, across, z) == wanted;
                if (isWanted && begin < 0) {
                    begin = along;
                } else if (!isWanted && begin >= 0) {
                    add(wanted, begin, along - 1, across, z);
                    begin = -1;
                }
            }
        }

        private char kindOn(int along, int across, int z) {
            return canBeHalved(z) ? kinds.kindOf(along, across, z) : kinds.kindOf(across, along, z);
        }

        private void add(char strokeKind, int first, int last, int across, int z) {
            if (count >= LAYER_CELLS) {
                return;
            }
            boolean isAlongX = canBeHalved(z);
            kind[count] = strokeKind;
            firstX[count] = isAlongX ? first : across;
            firstY[count] = isAlongX ? across : first;
            lastX[count] = isAlongX ? last : across;
            lastY[count] = isAlongX ? across : last;
            count++;
        }

        int size() {
            return count;
        }

        int countCells() {
            int cells = 0;
            for (int stroke = 0; stroke < count; stroke++) {
                cells += distance(endX(stroke, true), endY(stroke, true), endX(stroke, false), endY(stroke, false)) + 1;
            }
            return cells;
        }

        char kindOf(int stroke) {
            return has(stroke) ? kind[stroke] : '.';
        }

        int endX(int stroke, boolean isFirst) {
            if (!has(stroke)) {
                return 0;
            }
            return isFirst ? firstX[stroke] : lastX[stroke];
        }

        int endY(int stroke, boolean isFirst) {
            if (!has(stroke)) {
                return 0;
            }
            return isFirst ? firstY[stroke] : lastY[stroke];
        }

        private boolean has(int stroke) {
            return stroke >= 0 && stroke < count && stroke < LAYER_CELLS;
        }
    }

    /** The list of commands. */
    private static final class Commands {
        private final char[] kind;
        /** The place of the head behind each command. */
        private final int[] headX;
        private final int[] headY;
        private final int[] layer;
        /** What each cell of a layer gets: the thickness may be set anew behind the planning. */
        private final int[] amountOfCell;
        private int count;
        private int travel;
        private long amount;

        Commands() {
            kind = new char[MOST_COMMANDS];
            headX = new int[MOST_COMMANDS];
            headY = new int[MOST_COMMANDS];
            layer = new int[MOST_COMMANDS];
            amountOfCell = new int[SIDE];
        }

        void clear() {
            count = 0;
            travel = 0;
            amount = 0;
        }

        void keepAmount(int z, int cellAmount) {
            if (isPlace(z)) {
                amountOfCell[z] = cellAmount;
            }
        }

        void add(char command, int x, int y, int z) {
            if (count >= MOST_COMMANDS || !isPlace(z)) {
                return;
            }
            int way = distance(behindX(count - 1), behindY(count - 1), x, y);
            if (command == 'g') {
                travel += way;
            } else if (command == 'd') {
                amount += (way + 1) * amountOfCell[z];
            }
            kind[count] = command;
            headX[count] = x;
            headY[count] = y;
            layer[count] = z;
            count++;
        }

        int size() {
            return count;
        }

        int travelled() {
            return travel;
        }

        long amountInAll() {
            return amount;
        }

        boolean has(int command) {
            return command >= 0 && command < count;
        }

        char kindOf(int command) {
            return command >= 0 && command < count ? kind[command] : ' ';
        }

        /** The head is at 0, 0 ahead of the first command. */
        int behindX(int command) {
            return command >= 0 && command < count ? headX[command] : 0;
        }

        int behindY(int command) {
            return command >= 0 && command < count ? headY[command] : 0;
        }

        int layerOf(int command) {
            return command >= 0 && command < count ? layer[command] : 0;
        }

        int distanceX(int command) {
            return behindX(command) - behindX(command - 1);
        }

        int distanceY(int command) {
            return behindY(command) - behindY(command - 1);
        }

        boolean isMove(int command) {
            return kindOf(command) == 'g' || kindOf(command) == 'd';
        }

        boolean hasNumber(int command, char number) {
            switch (number) {
                case 'x':
                case 'y':
                    return isMove(command);
                case 'a':
                    return kindOf(command) == 'd';
                default:
                    return kindOf(command) == 'z';
            }
        }

        int numberOf(int command, char number) {
            switch (number) {
                case 'x':
                    return behindX(command);
                case 'y':
                    return behindY(command);
                case 'a':
                    return cellsOf(command) * cellAmount(command);
                default:
                    return layerOf(command);
            }
        }

        int cellAmount(int command) {
            int z = layerOf(command);
            return isPlace(z) ? amountOfCell[z] : 0;
        }

        /** A stroke runs along x or along y, so one of the distances of a 'd' is 0. */
        int cellsOf(int command) {
            return Math.abs(distanceX(command)) + Math.abs(distanceY(command)) + 1;
        }

        int lengthOf(int command) {
            return 10 * Math.max(Math.abs(distanceX(command)), Math.abs(distanceY(command)));
        }

        int greatestSpeed(int command) {
            return kindOf(command) == 'g' ? 8 : 4;
        }

        /** Whether this command and the next one are moves in the same direction. */
        boolean goesOn(int command) {
            if (!isMove(command) || !isMove(command + 1)) {
                return false;
            }
            int signX = signOf(distanceX(command));
            int signY = signOf(distanceY(command));
            return (signX != 0 || signY != 0)
                    && signX == signOf(distanceX(command + 1)) && signY == signOf(distanceY(command + 1));
        }

        int lastSpeed(int command) {
            return goesOn(command) ? Math.min(greatestSpeed(command), greatestSpeed(command + 1)) : 1;
        }
    }

    /** Makes the commands out of the strokes of all layers. */
    private static final class Planner {
        private final Settings settings;
        private final Strokes strokes;
        private final Commands commands;
        private final boolean[] isDrawn;
        private int headX;
        private int headY;

        Planner(Settings settings, Strokes strokes, Commands commands) {
            this.settings = settings;
            this.strokes = strokes;
            this.commands = commands;
            isDrawn = new boolean[LAYER_CELLS];
        }

        void makeCommands() {
            commands.clear();
            headX = 0;
            headY = 0;
            for (int z = 0; z < SIDE; z++) {
                commands.keepAmount(z, 10 * settings.thicknessOf(z));
                strokes.collect(z);
                if (strokes.size() > 0) {
                    planLayer(z);
                }
            }
        }

        private void planLayer(int z) {
            commands.add('z', headX, headY, z);
            if (settings.hasPause(z)) {
                commands.add('p', headX, headY, z);
            }
            for (int stroke = 0; stroke < isDrawn.length; stroke++) {
                isDrawn[stroke] = false;
            }
            for (int drawn = 0; drawn < strokes.size(); drawn++) {
                int stroke = nearestStroke();
                if (stroke >= 0 && stroke < isDrawn.length) {
                    isDrawn[stroke] = true;
                    planStroke(stroke, z);
                }
            }
        }

        /** Strokes are numbered by their kinds, so the kind of the first one left is the one that is due. */
        private int nearestStroke() {
            int nearest = -1;
            int shortest = 0;
            for (int stroke = 0; stroke < strokes.size() && stroke < isDrawn.length; stroke++) {
                if (isDrawn[stroke]) {
                    continue;
                }
                if (nearest >= 0 && strokes.kindOf(stroke) != strokes.kindOf(nearest)) {
                    break;
                }
                int way = distanceOf(stroke);
                if (nearest < 0 || way < shortest) {
                    nearest = stroke;
                    shortest = way;
                }
            }
            return nearest;
        }

        private int distanceOf(int stroke) {
            return Math.min(distanceOfEnd(stroke, true), distanceOfEnd(stroke, false));
        }

        private int distanceOfEnd(int stroke, boolean isFirst) {
            return distance(headX, headY, strokes.endX(stroke, isFirst), strokes.endY(stroke, isFirst));
        }

        private void planStroke(int stroke, int z) {
            boolean isForward = distanceOfEnd(stroke, true) <= distanceOfEnd(stroke, false);
            int way = distanceOf(stroke);
            boolean isFar = way > settings.reachLength();
            if (isFar) {
                commands.add('r', headX, headY, z);
            }
            if (way > 0) {
                headX = strokes.endX(stroke, isForward);
                headY = strokes.endY(stroke, isForward);
                commands.add('g', headX, headY, z);
            }
            if (isFar) {
                commands.add('u', headX, headY, z);
            }
            headX = strokes.endX(stroke, !isForward);
            headY = strokes.endY(stroke, !isForward);
            commands.add('d', headX, headY, z);
        }
    }

    /** The heater and what it heats. */
    private static final class Heat {
        private static final int COLDEST = 20;
        private static final int LEAST_TARGET = 150;

        private int target;
        private int temperature;
        private boolean isOn;

        Heat() {
            temperature = COLDEST;
        }

        int changeTarget(int value) {
            int before = target;
            target = value;
            return before;
        }

        void turnOff() {
            target = 0;
            isOn = false;
        }

        void passTick() {
            if (temperature < target - 2) {
                isOn = true;
            } else if (temperature > target + 2) {
                isOn = false;
            }
            temperature = isOn ? temperature + 3 : Math.max(temperature - 1, COLDEST);
        }

        boolean isEnough() {
            return target >= LEAST_TARGET && temperature >= target - 10;
        }

        int currentTemperature() {
            return temperature;
        }
    }

    /** Does the commands tick by tick. */
    private static final class Machine {
        private static final int NONE = -1;

        private final Commands commands;
        private final Heat heat;
        private char state;
        private char stateBeforeFailure;
        private int next;
        /** How far the move under way has gone. */
        private int gone;
        private int speed;
        private int kept;
        private boolean wasCut;
        private long time;
        private final int[] laid;
        private long laidInAll;

        Machine(Commands commands, Heat heat) {
            this.commands = commands;
            this.heat = heat;
            state = 'i';
            stateBeforeFailure = 'i';
            kept = NONE;
            laid = new int[ALL_CELLS];
        }

        boolean isBusy() {
            return isPrinting(state) || state == 'f';
        }

        private static boolean isPrinting(char someState) {
            return someState == 'r' || someState == 'w' || someState == 'p';
        }

        /** The commands are new: nothing of a print of the old ones can go on. */
        void rest() {
            state = 'i';
            wasCut = false;
            kept = NONE;
            goTo(0);
        }

        void beginPrint() {
            state = 'r';
            wasCut = false;
            kept = NONE;
            goTo(0);
            Arrays.fill(laid, 0);
            laidInAll = 0;
        }

        private void goTo(int command) {
            next = command;
            gone = 0;
            speed = 0;
        }

        int passTicks(int ticks) {
            int over = 0;
            for (int tick = 0; tick < ticks; tick++) {
                time++;
                heat.passTick();
                if ((state == 'r' || state == 'w') && doTick()) {
                    over++;
                }
            }
            return over;
        }

        /** Whether the command is over by this tick. */
        private boolean doTick() {
            if (commands.kindOf(next) == 'd' && !heat.isEnough()) {
                state = 'w';
                speed = 0;
                return false;
            }
            state = 'r';
            int left = commands.lengthOf(next) - gone;
            if (left > 0) {
                speed = speedFor(left);
                gone += speed;
            }
            if (left > speed) {
                return false;
            }
            endCommand();
            return true;
        }

        private int speedFor(int left) {
            int last = commands.lastSpeed(next);
            int tried = Math.min(speed + 1, Math.min(commands.greatestSpeed(next), left));
            while (tried > 1 && !canEnd(tried, left - tried, last)) {
                tried--;
            }
            return Math.max(tried, 1);
        }

        /** Whether a move can still end with its last speed, if it goes on by one less in each tick. */
        private static boolean canEnd(int speed, int leftBehind, int last) {
            int needed = 0;
            for (int slower = last; slower < speed; slower++) {
                needed += slower;
            }
            return leftBehind >= needed;
        }

        private void endCommand() {
            char kind = commands.kindOf(next);
            speed = commands.goesOn(next) ? Math.min(speed, commands.greatestSpeed(next + 1)) : 0;
            if (kind == 'd') {
                lay(next);
            } else if (kind == 'z') {
                kept = next;
            } else if (kind == 'p') {
                state = 'p';
            }
            gone = 0;
            next++;
            if (next >= commands.size()) {
                state = 'd';
            }
        }

        private void lay(int command) {
            int x = commands.behindX(command);
            int y = commands.behindY(command);
            int z = commands.layerOf(command);
            int stepX = signOf(commands.distanceX(command));
            int stepY = signOf(commands.distanceY(command));
            int amount = commands.cellAmount(command);
            for (int cell = 0; cell < commands.cellsOf(command); cell++) {
                if (isCell(x, y, z)) {
                    laid[indexOf(x, y, z)] += amount;
                    laidInAll += amount;
                }
                x -= stepX;
                y -= stepY;
            }
        }

        void endPause() {
            state = 'r';
        }

        char beginFailure() {
            stateBeforeFailure = state;
            state = 'f';
            heat.changeTarget(0);
            speed = 0;
            return stateBeforeFailure;
        }

        char endFailure() {
            state = stateBeforeFailure;
            return state;
        }

        char cutPower() {
            char before = state;
            if (isPrinting(before) || before == 'f' && isPrinting(stateBeforeFailure)) {
                wasCut = true;
            }
            state = 'i';
            heat.turnOff();
            speed = 0;
            return before;
        }

        boolean canResume() {
            return state == 'i' && wasCut;
        }

        int resumePrint() {
            state = 'r';
            goTo(kept == NONE ? 0 : kept);
            return next;
        }

        char currentState() {
            return state;
        }

        int nextCommand() {
            return next;
        }

        int currentSpeed() {
            return speed;
        }

        long ticksPassed() {
            return time;
        }

        int laidIn(int x, int y, int z) {
            return isCell(x, y, z) ? laid[indexOf(x, y, z)] : 0;
        }

        long sumOfLaid() {
            return laidInAll;
        }
    }
}

import java.util.ArrayDeque;
import java.util.ArrayList;
import java.util.Deque;
import java.util.List;
import java.util.NoSuchElementException;

/**
 * The document once more, slow and written in another way, so that random runs can be held against it: walls by
 * distances, supports from what hangs downwards, commands as objects with both of their places.
 */
final class PlainModel {
    private record Stroke(char kind, int[] first, int[] last, int cells) {
    }

    private record Command(char kind, int fromX, int fromY, int x, int y, int z, int cells, int each) {
        int dx() {
            return x - fromX;
        }

        int dy() {
            return y - fromY;
        }

        boolean isMove() {
            return kind == 'g' || kind == 'd';
        }

        int length() {
            return isMove() ? 10 * Math.max(Math.abs(dx()), Math.abs(dy())) : 0;
        }

        int most() {
            return kind == 'g' ? 8 : 4;
        }
    }

    private final boolean[][][] solid = new boolean[12][12][12];
    private final int[] setting = new int[128];
    private char pattern = 'l';
    private final int[] thickness = new int[12];
    private final boolean[] pause = new boolean[12];
    private List<Command> commands = new ArrayList<>();

    private String states = "i";
    private int next;
    private int left = -1;
    private int speed;
    private int kept;
    private boolean wasCut;
    private int target;
    private int temperature = 20;
    private boolean heats;
    private long time;
    private final int[][][] laid = new int[12][12][12];

    PlainModel() {
        setting['w'] = 1;
        setting['k'] = 1;
        setting['d'] = 3;
        setting['r'] = 4;
        java.util.Arrays.fill(thickness, 1);
    }

    // ---- body and settings

    private boolean at(int x, int y, int z) {
        return Math.min(x, Math.min(y, z)) >= 0 && Math.max(x, Math.max(y, z)) < 12 && solid[x][y][z];
    }

    private static void layer(int z) {
        if (z < 0 || z > 11) {
            throw new IndexOutOfBoundsException();
        }
    }

    int box(int x, int y, int z, int dx, int dy, int dz, boolean isSolid) {
        long[][] spans = {{x, dx}, {y, dy}, {z, dz}};
        for (long[] span : spans) {
            if (span[0] < 0 || span[0] > 11 || span[1] < 1 || span[0] + span[1] > 12) {
                throw new IllegalArgumentException();
            }
        }
        int changed = 0;
        for (int cell = 0; cell < dx * dy * dz; cell++) {
            int cx = x + cell % dx;
            int cy = y + cell / dx % dy;
            int cz = z + cell / dx / dy;
            changed += solid[cx][cy][cz] == isSolid ? 0 : 1;
            solid[cx][cy][cz] = isSolid;
        }
        return changed;
    }

    int set(char letter, int value) {
        String[] ranges = {"w1-3", "k0-3", "d1-6", "s0-1", "g0-2", "r0-22"};
        for (String range : ranges) {
            int dash = range.indexOf('-');
            int least = Integer.parseInt(range.substring(1, dash));
            int most = Integer.parseInt(range.substring(dash + 1));
            if (range.charAt(0) == letter && least <= value && value <= most) {
                int before = setting[letter];
                setting[letter] = value;
                return before;
            }
        }
        throw new IllegalArgumentException();
    }

    char setPattern(char letter) {
        if ("lgw".indexOf(letter) < 0) {
            throw new IllegalArgumentException();
        }
        char before = pattern;
        pattern = letter;
        return before;
    }

    int setThickness(int z, int value) {
        layer(z);
        if (value < 1 || value > 3) {
            throw new IllegalArgumentException();
        }
        int before = thickness[z];
        thickness[z] = value;
        return before;
    }

    boolean setPause(int z, boolean isPause) {
        layer(z);
        boolean before = pause[z];
        pause[z] = isPause;
        return before;
    }

    /** The way to the nearest place that is not solid; on it lies one cell of each wall further out. */
    private int wall(int x, int y, int z) {
        int nearest = 99;
        for (int ox = -1; ox <= 12; ox++) {
            for (int oy = -1; oy <= 12; oy++) {
                if (!at(ox, oy, z)) {
                    nearest = Math.min(nearest, Math.abs(ox - x) + Math.abs(oy - y));
                }
            }
        }
        return nearest;
    }

    private boolean hangs(int x, int y, int z) {
        return z > 0 && at(x, y, z) && !at(x, y, z - 1) && !at(x - 1, y, z - 1) && !at(x + 1, y, z - 1)
                && !at(x, y - 1, z - 1) && !at(x, y + 1, z - 1);
    }

    char kindAt(int x, int y, int z) {
        layer(x);
        layer(y);
        layer(z);
        return at(x, y, z) ? solidKind(x, y, z) : openKind(x, y, z);
    }

    private char solidKind(int x, int y, int z) {
        if (wall(x, y, z) <= setting['w']) {
            return 'w';
        }
        for (int side = -1; side <= 1; side += 2) {
            for (int i = 1; i <= setting['k']; i++) {
                if (!at(x, y, z + side * i)) {
                    return side < 0 ? 'b' : 't';
                }
            }
        }
        int d = setting['d'];
        boolean isFilled;
        if (pattern == 'l') {
            isFilled = (z % 2 == 0 ? y : x) % d == 0;
        } else if (pattern == 'g') {
            isFilled = x % d == 0 || y % d == 0;
        } else {
            isFilled = (x + Math.abs((y + z) % (2 * d) - d)) % d == 0;
        }
        return isFilled ? 'i' : 'e';
    }

    private char openKind(int x, int y, int z) {
        for (int above = z + 1; setting['s'] == 1 && above < 12; above++) {
            if (hangs(x, y, above) && supportsReach(x, y, above, z)) {
                return 's';
            }
        }
        return '.';
    }

    private boolean supportsReach(int x, int y, int from, int z) {
        int cell = from - 1;
        for (int i = 0; i < setting['g']; i++) {
            if (at(x, y, cell)) {
                return false;
            }
            cell--;
        }
        while (cell >= 0 && !at(x, y, cell)) {
            if (cell == z) {
                return true;
            }
            cell--;
        }
        return false;
    }

    int hanging(int z) {
        layer(z);
        int count = 0;
        for (int cell = 0; cell < 144; cell++) {
            count += hangs(cell / 12, cell % 12, z) ? 1 : 0;
        }
        return count;
    }

    // ---- outlines

    /** With a margin round the layer, so that the set beyond is found like any other and is taken off. */
    private int sets(int z, boolean isSolid) {
        boolean[][] seen = new boolean[14][14];
        int count = 0;
        for (int cell = 0; cell < 196; cell++) {
            int x = cell / 14;
            int y = cell % 14;
            if (!seen[x][y] && at(x - 1, y - 1, z) == isSolid) {
                count++;
                flood(seen, x, y, z, isSolid);
            }
        }
        return isSolid ? count : count - 1;
    }

    private void flood(boolean[][] seen, int x, int y, int z, boolean isSolid) {
        Deque<int[]> open = new ArrayDeque<>();
        open.push(new int[] {x, y});
        seen[x][y] = true;
        while (!open.isEmpty()) {
            int[] cell = open.pop();
            for (int way = 0; way < 9; way++) {
                int nx = cell[0] + way % 3 - 1;
                int ny = cell[1] + way / 3 - 1;
                boolean isCorner = nx != cell[0] && ny != cell[1];
                if (nx >= 0 && nx < 14 && ny >= 0 && ny < 14 && !seen[nx][ny] && !(isSolid && isCorner)
                        && at(nx - 1, ny - 1, z) == isSolid) {
                    seen[nx][ny] = true;
                    open.push(new int[] {nx, ny});
                }
            }
        }
    }

    int outer(int z) {
        layer(z);
        return sets(z, true);
    }

    int inner(int z) {
        layer(z);
        return sets(z, false);
    }

    int outlinesByEdges(int z) {
        layer(z);
        return sets(z, true) + sets(z, false);
    }

    int edges(int z) {
        layer(z);
        int count = 0;
        for (int a = -1; a < 12; a++) {
            for (int b = 0; b < 12; b++) {
                count += at(a, b, z) != at(a + 1, b, z) ? 1 : 0;
                count += at(b, a, z) != at(b, a + 1, z) ? 1 : 0;
            }
        }
        return count;
    }

    // ---- strokes and commands

    private List<Stroke> strokesOf(int z) {
        List<Stroke> found = new ArrayList<>();
        int[][] along = z % 2 == 0 ? new int[][] {{1, 0}, {0, 1}} : new int[][] {{0, 1}, {1, 0}};
        char[][] kinds = new char[13][13];
        for (int cell = 0; cell < 144; cell++) {
            kinds[cell / 12][cell % 12] = kindAt(cell / 12, cell % 12, z);
        }
        for (char kind : "wbtis".toCharArray()) {
            for (int other = 0; other < 12; other++) {
                for (int first = 0; first < 12; first++) {
                    int last = first - 1;
                    while (last < 11 && kindIn(kinds, along, last + 1, other) == kind) {
                        last++;
                    }
                    if (last >= first) {
                        found.add(new Stroke(kind, place(along, first, other), place(along, last, other),
                                last - first + 1));
                        first = last;
                    }
                }
            }
        }
        return found;
    }

    private static int[] place(int[][] along, int place, int other) {
        return new int[] {along[0][0] * place + along[1][0] * other, along[0][1] * place + along[1][1] * other};
    }

    private static char kindIn(char[][] kinds, int[][] along, int place, int other) {
        int[] cell = place(along, place, other);
        return kinds[cell[0]][cell[1]];
    }

    int strokes(int z) {
        layer(z);
        return strokesOf(z).size();
    }

    private char state() {
        return states.charAt(0);
    }

    private boolean isBusy() {
        return "rwpf".indexOf(state()) >= 0;
    }

    private static void require(boolean isFine) {
        if (!isFine) {
            throw new IllegalStateException();
        }
    }

    private static int far(int[] head, int[] end) {
        return Math.abs(head[0] - end[0]) + Math.abs(head[1] - end[1]);
    }

    int plan() {
        require(!isBusy());
        commands = new ArrayList<>();
        int[] head = {0, 0};
        for (int z = 0; z < 12; z++) {
            List<Stroke> all = strokesOf(z);
            if (all.isEmpty()) {
                continue;
            }
            put('z', head, head, z, 0);
            if (pause[z]) {
                put('p', head, head, z, 0);
            }
            for (char kind : "wbtis".toCharArray()) {
                List<Stroke> open = new ArrayList<>();
                for (Stroke stroke : all) {
                    if (stroke.kind() == kind) {
                        open.add(stroke);
                    }
                }
                while (!open.isEmpty()) {
                    head = draw(takeNearest(open, head), head, z);
                }
            }
        }
        states = "i";
        next = 0;
        wasCut = false;
        return commands.size();
    }

    private static Stroke takeNearest(List<Stroke> open, int[] head) {
        Stroke nearest = null;
        int best = 99;
        for (Stroke stroke : open) {
            int way = Math.min(far(head, stroke.first()), far(head, stroke.last()));
            if (way < best) {
                best = way;
                nearest = stroke;
            }
        }
        open.remove(nearest);
        return nearest;
    }

    private int[] draw(Stroke stroke, int[] head, int z) {
        boolean isBackward = far(head, stroke.last()) < far(head, stroke.first());
        int[] begin = isBackward ? stroke.last() : stroke.first();
        int[] end = isBackward ? stroke.first() : stroke.last();
        int way = far(head, begin);
        if (way > 0 && way > setting['r']) {
            put('r', head, head, z, 0);
            put('g', head, begin, z, 0);
            put('u', begin, begin, z, 0);
        } else if (way > 0) {
            put('g', head, begin, z, 0);
        }
        put('d', begin, end, z, stroke.cells());
        return end;
    }

    private void put(char kind, int[] from, int[] to, int z, int cells) {
        commands.add(new Command(kind, from[0], from[1], to[0], to[1], z, cells, 10 * thickness[z]));
    }

    int commands() {
        return commands.size();
    }

    char commandAt(int command) {
        if (command < 0 || command >= commands.size()) {
            throw new IndexOutOfBoundsException();
        }
        return commands.get(command).kind();
    }

    int numberAt(int command, char number) {
        char kind = commandAt(command);
        if ("xyaz".indexOf(number) < 0) {
            throw new IllegalArgumentException();
        }
        String has = kind == 'd' ? "xya" : kind == 'g' ? "xy" : kind == 'z' ? "z" : "";
        if (has.indexOf(number) < 0) {
            throw new NoSuchElementException();
        }
        Command c = commands.get(command);
        return number == 'x' ? c.x() : number == 'y' ? c.y() : number == 'z' ? c.z() : c.cells() * c.each();
    }

    int travel() {
        int sum = 0;
        for (Command c : commands) {
            sum += c.kind() == 'g' ? Math.abs(c.dx()) + Math.abs(c.dy()) : 0;
        }
        return sum;
    }

    long planned() {
        long sum = 0;
        for (Command c : commands) {
            sum += c.cells() * c.each();
        }
        return sum;
    }

    // ---- the machine

    int setTarget(int value) {
        if (value < 0 || value > 300) {
            throw new IllegalArgumentException();
        }
        require(state() != 'f');
        int before = target;
        target = value;
        return before;
    }

    int print() {
        require(!isBusy() && !commands.isEmpty());
        begin(0);
        kept = -1;
        wasCut = false;
        for (int cell = 0; cell < 1728; cell++) {
            laid[cell / 144][cell / 12 % 12][cell % 12] = 0;
        }
        return commands.size();
    }

    private void begin(int command) {
        states = "r";
        next = command;
        left = -1;
        speed = 0;
    }

    int pass(int ticks) {
        if (ticks < 1 || ticks > 200) {
            throw new IllegalArgumentException();
        }
        int before = next;
        for (int tick = 0; tick < ticks; tick++) {
            time++;
            heats = temperature < target - 2 || heats && temperature <= target + 2;
            temperature = heats ? temperature + 3 : Math.max(20, temperature - 1);
            if ("rw".indexOf(state()) >= 0) {
                work();
            }
        }
        return next - before;
    }

    private void work() {
        Command c = commands.get(next);
        if (c.kind() == 'd' && (target < 150 || temperature < target - 10)) {
            states = "w";
            speed = 0;
            return;
        }
        states = "r";
        if (left < 0) {
            left = c.length();
        }
        Command follower = next + 1 < commands.size() ? commands.get(next + 1) : null;
        boolean isSame = follower != null && c.isMove() && follower.isMove() && (c.dx() != 0 || c.dy() != 0)
                && Integer.signum(c.dx()) == Integer.signum(follower.dx())
                && Integer.signum(c.dy()) == Integer.signum(follower.dy());
        if (left > 0) {
            int last = isSame ? Math.min(c.most(), follower.most()) : 1;
            speed = bestSpeed(c.most(), last);
            left -= speed;
            if (left > 0) {
                return;
            }
        }
        speed = isSame ? Math.min(speed, follower.most()) : 0;
        left = -1;
        end(c);
    }

    private int bestSpeed(int most, int last) {
        int best = 1;
        for (int n = 1; n <= speed + 1 && n <= most && n <= left; n++) {
            int sum = (n - 1) * n / 2 - (last - 1) * last / 2;
            if (n <= last || left - n >= sum) {
                best = n;
            }
        }
        return best;
    }

    private void end(Command c) {
        if (c.kind() == 'z') {
            kept = next;
        }
        if (c.kind() == 'd') {
            for (int x = Math.min(c.fromX(), c.x()); x <= Math.max(c.fromX(), c.x()); x++) {
                for (int y = Math.min(c.fromY(), c.y()); y <= Math.max(c.fromY(), c.y()); y++) {
                    laid[x][y][c.z()] += c.each();
                }
            }
        }
        next++;
        states = c.kind() == 'p' ? "p" : next == commands.size() ? "d" : "r";
    }

    int goOn() {
        require(state() == 'p');
        states = "r";
        return commands.size() - next;
    }

    char fail() {
        require(state() != 'f');
        char before = state();
        states = "f" + before;
        target = 0;
        speed = 0;
        return before;
    }

    char mend() {
        require(state() == 'f');
        states = states.substring(1);
        return state();
    }

    char cut() {
        char before = state();
        char at = states.charAt(states.length() - 1);
        wasCut |= "rwp".indexOf(at) >= 0;
        states = "i";
        target = 0;
        heats = false;
        speed = 0;
        return before;
    }

    int resume() {
        require(state() == 'i' && wasCut);
        begin(Math.max(kept, 0));
        return next;
    }

    char stateNow() {
        return state();
    }

    int next() {
        return next;
    }

    int speed() {
        return speed;
    }

    int temperature() {
        return temperature;
    }

    long time() {
        return time;
    }

    int laid(int x, int y, int z) {
        layer(x);
        layer(y);
        layer(z);
        return laid[x][y][z];
    }

    long laidInAll() {
        long sum = 0;
        for (int cell = 0; cell < 1728; cell++) {
            sum += laid[cell / 144][cell / 12 % 12][cell % 12];
        }
        return sum;
    }

    // ---- figures

    float emptyShare() {
        int solids = 0;
        int empties = 0;
        for (int cell = 0; cell < 1728; cell++) {
            int x = cell / 144;
            int y = cell / 12 % 12;
            int z = cell % 12;
            if (at(x, y, z)) {
                solids++;
                empties += solidKind(x, y, z) == 'e' ? 1 : 0;
            }
        }
        if (solids == 0) {
            throw new ArithmeticException();
        }
        return (float) empties / (float) solids;
    }

    double meanStroke() {
        int number = 0;
        int cells = 0;
        for (int z = 0; z < 12; z++) {
            for (Stroke stroke : strokesOf(z)) {
                number++;
                cells += stroke.cells();
            }
        }
        if (number == 0) {
            throw new ArithmeticException();
        }
        return (double) cells / (double) number;
    }
}

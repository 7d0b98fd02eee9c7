import java.util.Objects;
import java.util.Random;

/** Random runs of calls on a new object, each answer held against the plain model. Seeds are fixed. */
public final class RandomRunsTest {
    private static final int RUNS = 400;
    /** Some steps make several calls, and an object is used for 512 at most. */
    private static final int CALLS = 512 - 8;
    private static int wrong = 0;
    private static int calls = 0;

    private final Random random;
    private final int run;
    private final SliceWright object = new SliceWright();
    private final PlainModel model = new PlainModel();
    private final StringBuilder log = new StringBuilder();
    /** A run is of bodies, of printing, or of odd arguments, more than of the others. */
    private final int bias;
    private boolean isWrong;
    private int callsOfRun;

    private RandomRunsTest(int run) {
        this.run = run;
        random = new Random(1000003L * run + 17);
        bias = run % 4;
    }

    public static void main(String[] args) {
        int runs = args.length > 0 ? Integer.parseInt(args[0]) : RUNS;
        for (int run = 0; run < runs && wrong < 5; run++) {
            new RandomRunsTest(run).go();
        }
        System.out.println(calls + " calls in random runs, " + wrong + " runs went wrong");
        if (wrong != 0) {
            System.exit(1);
        }
    }

    private void go() {
        while (callsOfRun < CALLS && !isWrong) {
            int sort = random.nextInt(100);
            int ofBody = bias == 0 ? 70 : bias == 1 ? 10 : 30;
            int ofMachine = bias == 0 ? 80 : 95;
            if (callsOfRun < 6 || sort < ofBody) {
                callOfBody();
            } else if (sort < ofMachine) {
                callOfMachine();
            } else {
                callOfFigures();
            }
        }
        wrong += isWrong ? 1 : 0;
    }

    private int place() {
        int odd = random.nextInt(bias == 3 ? 8 : 60);
        int[] odds = {-1, 12, Integer.MAX_VALUE, Integer.MIN_VALUE};
        return odd < 4 ? odds[odd] : random.nextInt(12);
    }

    private int number(int least, int most) {
        int odd = random.nextInt(bias == 3 ? 8 : 60);
        int[] odds = {least - 1, most + 1, Integer.MAX_VALUE, Integer.MIN_VALUE};
        return odd < 4 ? odds[odd] : least + random.nextInt(most - least + 1);
    }

    private char letter(String letters) {
        return random.nextInt(bias == 3 ? 6 : 40) == 0 ? (char) random.nextInt(300)
                : letters.charAt(random.nextInt(letters.length()));
    }

    private void callOfBody() {
        int z = place();
        switch (random.nextInt(14)) {
            case 0, 1, 2, 3 -> callOfBox();
            case 4, 5 -> callOfSetting();
            case 6 -> {
                char pattern = letter("lgw");
                check("setPattern " + pattern, () -> object.setPattern(pattern), () -> model.setPattern(pattern));
            }
            case 7 -> {
                int value = number(1, 3);
                check("setThickness " + z + " " + value, () -> object.setThickness(z, value),
                        () -> model.setThickness(z, value));
            }
            case 8 -> {
                boolean isPause = random.nextInt(3) == 0;
                check("setPause " + z + " " + isPause, () -> object.setPause(z, isPause),
                        () -> model.setPause(z, isPause));
            }
            case 9 -> check("hanging " + z, () -> object.hanging(z), () -> model.hanging(z));
            case 10 -> check("strokes " + z, () -> object.strokes(z), () -> model.strokes(z));
            case 11 -> callOfOutlines(z);
            default -> {
                int x = place();
                int y = place();
                check("kindAt " + x + " " + y + " " + z, () -> object.kindAt(x, y, z), () -> model.kindAt(x, y, z));
            }
        }
    }

    private void callOfBox() {
        int x = place();
        int y = place();
        int z = place();
        boolean isSmall = random.nextInt(3) == 0;
        int dx = isSmall ? 1 : number(1, Math.max(1, 12 - Math.max(0, Math.min(11, x))));
        int dy = isSmall ? 1 : number(1, Math.max(1, 12 - Math.max(0, Math.min(11, y))));
        int dz = isSmall ? 1 : number(1, Math.max(1, 12 - Math.max(0, Math.min(11, z))));
        boolean isSolid = random.nextInt(5) < (bias == 0 ? 3 : 4);
        check("box " + x + " " + y + " " + z + " " + dx + " " + dy + " " + dz + " " + isSolid,
                () -> object.box(x, y, z, dx, dy, dz, isSolid), () -> model.box(x, y, z, dx, dy, dz, isSolid));
    }

    private void callOfSetting() {
        char setting = letter("wkdsgr");
        int most = setting == 'r' ? 22 : setting == 'd' ? 6 : setting == 's' ? 1 : setting == 'g' ? 2 : 3;
        int value = number(setting == 'w' || setting == 'd' ? 1 : 0, most);
        check("set " + setting + " " + value, () -> object.set(setting, value), () -> model.set(setting, value));
    }

    private void callOfOutlines(int z) {
        check("outer " + z, () -> object.outer(z), () -> model.outer(z));
        check("inner " + z, () -> object.inner(z), () -> model.inner(z));
        check("outlinesByEdges " + z, () -> object.outlinesByEdges(z), () -> model.outlinesByEdges(z));
        check("edges " + z, () -> object.edges(z), () -> model.edges(z));
    }

    private void callOfMachine() {
        switch (random.nextInt(24)) {
            case 0 -> check("plan", object::plan, model::plan);
            case 1, 2 -> check("print", object::print, model::print);
            case 3, 4, 5 -> {
                int ticks = number(1, 200);
                check("pass " + ticks, () -> object.pass(ticks), () -> model.pass(ticks));
            }
            case 6, 7, 8 -> {
                int ticks = number(1, 9);
                check("pass " + ticks, () -> object.pass(ticks), () -> model.pass(ticks));
            }
            case 9, 10 -> {
                int target = random.nextInt(3) == 0 ? number(0, 300) : number(140, 220);
                check("setTarget " + target, () -> object.setTarget(target), () -> model.setTarget(target));
            }
            case 11 -> check("fail", this::sometimesFail, this::modelFails);
            case 12, 13 -> check("mend", object::mend, model::mend);
            case 14 -> callOfCut();
            case 15 -> check("resume", object::resume, model::resume);
            case 16, 17 -> check("goOn", object::goOn, model::goOn);
            case 18, 19 -> callOfCommands();
            default -> callOfStates();
        }
    }

    private boolean isFailing;

    private Object sometimesFail() {
        isFailing = random.nextInt(3) == 0;
        return isFailing ? object.fail() : object.state();
    }

    private Object modelFails() {
        return isFailing ? model.fail() : model.stateNow();
    }

    private void callOfCut() {
        if (random.nextInt(3) == 0) {
            check("cut", object::cut, model::cut);
        }
    }

    private void callOfCommands() {
        int count = model.commands();
        int command = number(0, Math.max(0, count - 1));
        char number = letter("xyaz");
        check("numberAt " + command + " " + number, () -> object.numberAt(command, number),
                () -> model.numberAt(command, number));
        check("commandAt " + command, () -> object.commandAt(command), () -> model.commandAt(command));
    }

    private void callOfStates() {
        check("state", object::state, model::stateNow);
        check("next", object::next, model::next);
        check("speed", object::speed, model::speed);
        switch (random.nextInt(3)) {
            case 0 -> check("temperature", object::temperature, model::temperature);
            case 1 -> check("time", object::time, model::time);
            default -> {
                int x = place();
                int y = place();
                int z = place();
                check("laid " + x + " " + y + " " + z, () -> object.laid(x, y, z), () -> model.laid(x, y, z));
                check("laidInAll", object::laidInAll, model::laidInAll);
            }
        }
    }

    private void callOfFigures() {
        check("emptyShare", object::emptyShare, model::emptyShare);
        check("meanStroke", object::meanStroke, model::meanStroke);
        check("travel", object::travel, model::travel);
        check("planned", object::planned, model::planned);
        check("commands", object::commands, model::commands);
    }

    private void check(String what, Check.Call call, Check.Call due) {
        if (isWrong) {
            return;
        }
        Object got = Check.answerOf(call);
        Object want = Check.answerOf(due);
        calls++;
        callsOfRun++;
        log.append(what).append(" = ").append(got).append('\n');
        if (!Objects.equals(got, want)) {
            isWrong = true;
            System.out.println("run " + run + ":\n" + log + "due is " + want);
        }
    }
}

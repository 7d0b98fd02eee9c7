/** Promises 20 to 34: heat, motion, pauses, failures, cuts, and what is laid. */
public final class MachineTest {
    private static final Class<IllegalStateException> STATE = IllegalStateException.class;
    private static final Class<IllegalArgumentException> ARGUMENT = IllegalArgumentException.class;

    public static void main(String[] args) {
        heater();
        heaterInItsBand();
        targetKept();
        begin();
        drawing();
        shortMoves();
        keptSpeed();
        travelInBothDirections();
        slowEnds();
        turns();
        coldDraw();
        leastTarget();
        coolingInADraw();
        mostTicks();
        pause();
        failure();
        failureInAMove();
        failureOfTheHeat();
        cutAndResume();
        cutInStates();
        cutTurnsHeaterOff();
        cutBehindTheEnd();
        laying();
        layingTwice();
        Check.end();
    }

    private static SliceWright paused() {
        SliceWright s = new SliceWright();
        s.box(0, 0, 0, 3, 1, 2, true);
        s.setPause(1, true);
        s.plan();
        Prints.warm(s);
        s.pass(30);
        return s;
    }

    private static SliceWright failed() {
        SliceWright s = Prints.warm(Prints.bar(5));
        s.pass(3);
        s.fail();
        return s;
    }

    private static SliceWright waiting() {
        SliceWright s = Prints.bar(5);
        s.print();
        s.pass(2);
        return s;
    }

    private static SliceWright done() {
        SliceWright s = Prints.warm(Prints.bar(2));
        s.pass(100);
        return s;
    }

    private static void heater() {
        SliceWright s = new SliceWright();
        Check.same("target at first", s.setTarget(25), 0);
        int[] due = {23, 26, 29, 28, 27, 26, 25, 24, 23, 22, 25, 28, 27};
        for (int tick = 0; tick < due.length; tick++) {
            Check.same("nothing is over", s.pass(1), 0);
            Check.same("temperature in tick " + tick, s.temperature(), due[tick]);
        }
        Check.same("time", s.time(), 13L);
        Check.same("target before", s.setTarget(0), 25);
        s.pass(5);
        Check.same("it falls", s.temperature(), 22);
        s.pass(2);
        Check.same("it falls to 20", s.temperature(), 20);
        s.pass(200);
        Check.same("it does not fall below", s.temperature(), 20);
        Check.same("time", s.time(), 220L);
        Check.same("the greatest target", s.setTarget(300), 0);
        s.pass(94);
        Check.same("it rises", s.temperature(), 302);
        s.pass(1);
        Check.same("the heater is on up to the target and 2", s.temperature(), 305);
        s.pass(1);
        Check.same("and off beyond", s.temperature(), 304);
    }

    private static void heaterInItsBand() {
        SliceWright s = new SliceWright();
        s.setTarget(22);
        s.pass(1);
        Check.same("2 below the target is no reason to heat", s.temperature(), 20);
        s.setTarget(23);
        s.pass(1);
        Check.same("3 below is", s.temperature(), 23);
        s.pass(1);
        Check.same("on within the band", s.temperature(), 26);
        s.setTarget(24);
        s.pass(1);
        Check.same("2 above the target is no reason to stop", s.temperature(), 29);
        s.pass(1);
        Check.same("5 above is", s.temperature(), 28);
        s.setTarget(28);
        s.pass(1);
        Check.same("off within the band", s.temperature(), 27);
    }

    private static void targetKept() {
        SliceWright s = waiting();
        Check.same("target in w", s.setTarget(210), 0);
        Check.refuses("setTarget(301)", ARGUMENT, () -> s.setTarget(301));
        Check.same("target kept", s.setTarget(0), 210);
    }

    private static void begin() {
        SliceWright s = Prints.bar(5);
        Check.same("print", s.print(), 2);
        Prints.now(s, "print", 'r', 0, 0);
        Check.same("the first tick", s.pass(1), 1);
        Prints.now(s, "a z takes one tick", 'r', 1, 0);
        s = done();
        Prints.now(s, "done", 'd', 2, 0);
        Check.same("laid", s.laidInAll(), 20L);
        Check.same("nothing more is done", s.pass(10), 0);
        Check.same("print again", s.print(), 2);
        Prints.now(s, "print again", 'r', 0, 0);
        Check.same("nothing is laid", s.laidInAll(), 0L);
        Check.same("nothing is laid in a cell", s.laid(0, 0, 0), 0);
        s.pass(100);
        Check.same("laid again", s.laidInAll(), 20L);
        Prints.now(s, "done again", 'd', 2, 0);
        Check.same("plan when done", s.plan(), 2);
        Prints.now(s, "plan when done", 'i', 0, 0);
        Check.same("what was laid stays behind a plan", s.laidInAll(), 20L);
    }

    private static void drawing() {
        SliceWright s = Prints.warm(Prints.bar(12));
        s.pass(1);
        int[] due = new int[31];
        java.util.Arrays.fill(due, 4);
        int[] first = {1, 2, 3};
        int[] last = {3, 2, 2, 0};
        System.arraycopy(first, 0, due, 0, 3);
        System.arraycopy(last, 0, due, 27, 4);
        Prints.speeds(s, "a stroke of 12 cells", due);
        Prints.now(s, "a stroke of 12 cells", 'd', 2, 0);
        Check.same("ticks", s.time(), 132L);
    }

    private static void shortMoves() {
        SliceWright s = new SliceWright();
        s.box(1, 0, 0, 1, 1, 1, true);
        s.plan();
        Prints.warm(s);
        s.pass(1);
        Prints.speeds(s, "a way of 10", 1, 2, 3, 2, 1, 0);
        Prints.speeds(s, "a stroke of one cell", 0);
        Prints.now(s, "a stroke of one cell", 'd', 3, 0);
        s = Prints.warm(Prints.bar(3));
        s.pass(1);
        Prints.speeds(s, "a stroke of 20", 1, 2, 3, 4, 4, 3, 2, 0);
    }

    /** The way goes on in the direction of the stroke, so its last speed is that of the stroke. */
    private static void keptSpeed() {
        SliceWright s = new SliceWright();
        s.box(3, 0, 0, 4, 1, 1, true);
        s.plan();
        Prints.warm(s);
        s.pass(1);
        Prints.speeds(s, "a way of 30", 1, 2, 3, 4, 5, 6, 5, 4);
        Prints.now(s, "behind the way", 'r', 2, 4);
        Prints.speeds(s, "the stroke", 4, 4, 4, 4, 4, 4, 3, 2, 0);
        Prints.now(s, "behind the stroke", 'd', 3, 0);
        s = new SliceWright();
        s.box(0, 3, 1, 1, 2, 1, true);
        s.plan();
        Prints.warm(s);
        s.pass(1);
        Prints.speeds(s, "a way of 30 along y", 1, 2, 3, 4, 5, 6, 5, 4);
        Prints.speeds(s, "the stroke of 10 along y", 4, 3, 2, 0);
        s = new SliceWright();
        s.box(11, 0, 0, 1, 1, 1, true);
        s.set('r', 22);
        s.plan();
        Prints.warm(s);
        s.pass(1);
        Prints.speeds(s, "a way of 110 to one cell", 1, 2, 3, 4, 5, 6, 7, 8, 8, 8, 8, 8, 8, 7, 6, 6, 5, 4, 3, 2, 0);
    }

    /** A stroke ends at the place from which the way goes on in its direction. */
    private static void travelInBothDirections() {
        SliceWright s = new SliceWright();
        s.box(0, 0, 0, 2, 1, 1, true);
        s.box(4, 0, 0, 2, 1, 1, true);
        s.plan();
        Prints.warm(s);
        s.pass(1);
        Prints.speeds(s, "a stroke of 10 that goes on", 1, 2, 3, 4);
        Prints.now(s, "behind the stroke", 'r', 2, 4);
        Prints.speeds(s, "a way of 30 that goes on", 5, 6, 6, 5, 4, 4);
        Prints.speeds(s, "a stroke of 10 that ends", 4, 3, 2, 0);
        Prints.now(s, "behind all", 'd', 4, 0);
    }

    /** Failures leave 1 of a length, which no greater speed may end, and the speed 1 is what is kept then. */
    private static void slowEnds() {
        SliceWright s = new SliceWright();
        s.box(0, 0, 0, 2, 1, 1, true);
        s.box(4, 0, 0, 2, 1, 1, true);
        s.plan();
        Prints.warm(s);
        s.pass(4);
        Prints.now(s, "6 of 10", 'r', 1, 3);
        s.fail();
        s.mend();
        s.setTarget(200);
        Prints.speeds(s, "the stroke from 0", 1, 2, 1);
        Prints.speeds(s, "the way from 1", 2, 3, 4, 5, 6, 5, 4, 1);
        Prints.speeds(s, "the stroke from 1", 2, 3, 2, 2, 0);
        Prints.now(s, "behind all", 'd', 4, 0);
        s = Prints.warm(Prints.bar(2));
        s.pass(5);
        Prints.now(s, "8 of 10", 'r', 1, 2);
        s.setTarget(0);
        s.pass(1);
        s.setTarget(200);
        s.pass(1);
        Prints.now(s, "9 of 10", 'r', 1, 1);
        s.setTarget(0);
        s.pass(1);
        Prints.now(s, "it waits for the last one", 'w', 1, 0);
        s.setTarget(200);
        Prints.speeds(s, "the last one", 0);
        Prints.now(s, "done", 'd', 2, 0);
    }

    private static void turns() {
        SliceWright s = new SliceWright();
        s.box(0, 0, 0, 2, 1, 1, true);
        s.box(2, 1, 0, 2, 1, 1, true);
        s.plan();
        Prints.warm(s);
        s.pass(1);
        Prints.speeds(s, "a stroke ahead of a slanting way", 1, 2, 3, 2, 1, 0);
        Prints.speeds(s, "a slanting way ahead of a stroke", 1, 2, 3, 2, 1, 0);
        s = new SliceWright();
        s.box(0, 0, 0, 2, 1, 1, true);
        s.box(5, 0, 0, 2, 1, 1, true);
        s.set('r', 3);
        s.plan();
        Prints.warm(s);
        s.pass(1);
        Prints.speeds(s, "a stroke ahead of an 'r'", 1, 2, 3, 2, 1, 0);
        Prints.speeds(s, "an 'r'", 0);
        s.pass(10);
        Check.same("a way ahead of a 'u' ends slowly", s.next(), 3);
        s.pass(2);
        Prints.now(s, "a way of 40 ahead of a 'u'", 'r', 4, 0);
        Prints.speeds(s, "a 'u'", 0);
    }

    private static void coldDraw() {
        SliceWright s = Prints.bar(3);
        s.setTarget(150);
        s.print();
        Check.same("it waits", s.pass(39), 1);
        Prints.now(s, "it waits", 'w', 1, 0);
        Check.same("it is too cold", s.temperature(), 137);
        Check.same("the first tick of the stroke", s.pass(1), 0);
        Check.same("it is warm enough at 10 less", s.temperature(), 140);
        Prints.now(s, "it prints", 'r', 1, 1);
        s = Prints.bar(3);
        s.setTarget(151);
        s.print();
        s.pass(40);
        Check.same("it is 11 too cold", s.temperature(), 140);
        Prints.now(s, "11 less is too cold", 'w', 1, 0);
        s.pass(1);
        Prints.now(s, "3 more are enough", 'r', 1, 1);
        s = new SliceWright();
        s.box(2, 0, 0, 1, 1, 1, true);
        s.plan();
        s.print();
        Check.same("a way needs no heat", s.pass(20), 2);
        Prints.now(s, "one cell waits too", 'w', 2, 0);
    }

    private static void leastTarget() {
        SliceWright s = Prints.bar(3);
        s.setTarget(149);
        s.print();
        s.pass(100);
        Prints.now(s, "the target is too low", 'w', 1, 0);
        s.setTarget(150);
        s.pass(1);
        Prints.now(s, "the target is high enough", 'r', 1, 1);
        s.setTarget(200);
        s.pass(1);
        Prints.now(s, "the target is far above", 'w', 1, 0);
        Check.same("time goes on", s.time(), 102L);
    }

    private static void coolingInADraw() {
        SliceWright s = Prints.warm(Prints.bar(12));
        s.pass(6);
        Prints.now(s, "under way", 'r', 1, 4);
        s.setTarget(0);
        s.pass(1);
        Prints.now(s, "no target", 'w', 1, 0);
        s.setTarget(200);
        s.pass(1);
        Prints.now(s, "it goes on from 0", 'r', 1, 1);
        s.pass(1);
        Prints.now(s, "it goes on", 'r', 1, 2);
        s.pass(200);
        Prints.now(s, "it ends", 'd', 2, 0);
        Check.same("all is laid", s.laidInAll(), 120L);
    }

    private static void mostTicks() {
        SliceWright s = Prints.warm(Prints.bar(5));
        long before = s.time();
        Check.same("pass(200)", s.pass(200), 2);
        Check.same("the time of 200 ticks", s.time(), before + 200L);
        Check.same("pass(1)", s.pass(1), 0);
    }

    private static void pause() {
        SliceWright s = paused();
        Prints.now(s, "paused", 'p', 4, 0);
        Check.same("nothing is done", s.pass(50), 0);
        Prints.now(s, "still paused", 'p', 4, 0);
        Check.same("the commands that are left", s.goOn(), 5);
        Prints.now(s, "it goes on", 'r', 4, 0);
        s.pass(200);
        Prints.now(s, "it ends", 'd', 9, 0);
        s = paused();
        s.fail();
        Check.same("mended", s.mend(), 'p');
        Prints.now(s, "paused as before", 'p', 4, 0);
        Check.same("it goes on when mended", s.goOn(), 5);
    }

    private static void failure() {
        SliceWright s = Prints.bar(3);
        Check.same("fail in i", s.fail(), 'i');
        Check.same("mend to i", s.mend(), 'i');
        s = waiting();
        Check.same("fail in w", s.fail(), 'w');
        Check.same("nothing passes but time", s.pass(3), 0);
        Check.same("state", s.state(), 'f');
        Check.same("mend to w", s.mend(), 'w');
        Check.same("state w", s.state(), 'w');
        s = done();
        Check.same("fail in d", s.fail(), 'd');
        Check.same("mend to d", s.mend(), 'd');
        Prints.now(s, "done as before", 'd', 2, 0);
        s = paused();
        Check.same("fail in p", s.fail(), 'p');
        s.cut();
        Prints.now(s, "cut when failed", 'i', 4, 0);
        Check.same("resume behind a failure", s.resume(), 2);
    }

    private static void failureInAMove() {
        SliceWright s = Prints.warm(Prints.bar(12));
        s.pass(6);
        Check.same("fail in r", s.fail(), 'r');
        Prints.now(s, "failed", 'f', 1, 0);
        Check.same("nothing is done", s.pass(2), 0);
        Prints.now(s, "still failed", 'f', 1, 0);
        Check.same("mend", s.mend(), 'r');
        Prints.now(s, "mended", 'r', 1, 0);
        Check.same("the target is 0", s.setTarget(200), 0);
        s.pass(1);
        Prints.now(s, "the move goes on from 0", 'r', 1, 1);
        int ticks = 1;
        while (s.state() != 'd' && ticks < 100) {
            s.pass(1);
            ticks++;
        }
        Check.same("ticks for what was left", ticks, 27);
    }

    /** No tick goes by, so the heater is not touched, and goes on within its band. */
    private static void failureOfTheHeat() {
        SliceWright s = new SliceWright();
        s.setTarget(50);
        s.pass(10);
        Check.same("heated", s.temperature(), 50);
        s.fail();
        s.mend();
        s.setTarget(50);
        s.pass(1);
        Check.same("the heater is on", s.temperature(), 53);
        s.fail();
        s.pass(3);
        Check.same("it falls", s.temperature(), 50);
        s.mend();
        Check.same("the target is 0", s.setTarget(50), 0);
        s.pass(1);
        Check.same("the heater is off", s.temperature(), 49);
    }

    private static void cutAndResume() {
        SliceWright s = paused();
        s.goOn();
        s.pass(1);
        Check.same("a stroke of the second layer", s.next(), 5);
        s.pass(4);
        Check.same("cut", s.cut(), 'r');
        Prints.now(s, "cut", 'i', 5, 0);
        Check.same("nothing is done", s.pass(10), 0);
        Check.same("resume", s.resume(), 2);
        Prints.now(s, "resumed", 'r', 2, 0);
        Check.same("the target is 0", s.setTarget(200), 0);
        Check.same("the z again", s.pass(1), 1);
        Check.same("the pause again", s.pass(1), 1);
        Prints.now(s, "paused again", 'p', 4, 0);
        s = Prints.bar(3);
        s.print();
        Check.same("cut at once", s.cut(), 'r');
        Check.same("resume with the first command", s.resume(), 0);
        Prints.now(s, "resumed", 'r', 0, 0);
        s = paused();
        s.goOn();
        s.pass(200);
        s.print();
        s.cut();
        Check.same("a z of a print before is not kept", s.resume(), 0);
    }

    private static void cutInStates() {
        SliceWright s = Prints.bar(3);
        Check.same("cut in i", s.cut(), 'i');
        Check.refuses("resume in i", STATE, s::resume);
        s = waiting();
        Check.same("cut in w", s.cut(), 'w');
        Check.same("cut again", s.cut(), 'i');
        s.fail();
        Check.same("a failure in i keeps what was cut", s.mend(), 'i');
        Check.same("resume behind w", s.resume(), 0);
        s = paused();
        Check.same("cut in p", s.cut(), 'p');
        Check.same("resume behind p", s.resume(), 2);
        s = failed();
        Check.same("cut in f", s.cut(), 'f');
        Check.same("resume behind f", s.resume(), 0);
        s = Prints.bar(3);
        s.fail();
        Check.same("cut in f behind i", s.cut(), 'f');
        Check.refuses("resume behind f behind i", STATE, s::resume);
        s = done();
        s.fail();
        Check.same("cut in f behind d", s.cut(), 'f');
        Check.refuses("resume behind f behind d", STATE, s::resume);
    }

    private static void cutTurnsHeaterOff() {
        SliceWright s = new SliceWright();
        s.setTarget(50);
        s.pass(10);
        s.cut();
        Check.same("the target is 0", s.setTarget(50), 0);
        s.pass(1);
        Check.same("the heater is off", s.temperature(), 49);
    }

    private static void cutBehindTheEnd() {
        SliceWright s = done();
        Check.same("cut in d", s.cut(), 'd');
        Prints.now(s, "cut in d", 'i', 2, 0);
        Check.refuses("nothing was cut", STATE, s::resume);
        Check.same("what was laid stays", s.laidInAll(), 20L);
        s.print();
        s.cut();
        s.resume();
        warmUp(s);
        Prints.now(s, "done behind a cut", 'd', 2, 0);
        s.cut();
        Check.same("only a plan and a print end what was cut", s.resume(), 0);
    }

    private static void warmUp(SliceWright s) {
        s.setTarget(200);
        s.pass(200);
    }

    private static void laying() {
        SliceWright s = new SliceWright();
        s.box(0, 0, 0, 3, 1, 1, true);
        s.box(0, 0, 1, 1, 3, 1, true);
        s.setThickness(0, 3);
        s.setThickness(1, 2);
        s.plan();
        s.setThickness(0, 1);
        s.box(0, 0, 0, 3, 3, 3, false);
        Prints.warm(s);
        s.pass(8);
        Check.same("nothing ahead of the end", s.laid(0, 0, 0), 0);
        Check.same("nothing at all", s.laidInAll(), 0L);
        Check.same("the stroke ends", s.pass(1), 1);
        for (int x = 0; x < 3; x++) {
            Check.same("laid along x", s.laid(x, 0, 0), 30);
        }
        Check.same("not laid", s.laid(3, 0, 0), 0);
        Check.same("not laid", s.laid(0, 1, 0), 0);
        Check.same("the sum", s.laidInAll(), 90L);
        s.pass(200);
        for (int y = 0; y < 3; y++) {
            Check.same("laid along y", s.laid(0, y, 1), 20);
        }
        Check.same("not laid", s.laid(1, 0, 1), 0);
        Check.same("the sum", s.laidInAll(), 150L);
        Check.same("as it was planned", s.planned(), 150L);
    }

    private static void layingTwice() {
        SliceWright s = new SliceWright();
        s.box(0, 0, 0, 3, 2, 1, true);
        s.plan();
        Prints.warm(s);
        s.pass(20);
        Check.same("one stroke is laid", s.laidInAll(), 30L);
        Check.same("under way", s.next(), 3);
        s.cut();
        Check.same("laid when cut", s.laidInAll(), 30L);
        s.resume();
        Check.same("laid when resumed", s.laidInAll(), 30L);
        warmUp(s);
        Check.same("done", s.state(), 'd');
        Check.same("laid twice", s.laid(2, 0, 0), 20);
        Check.same("laid once", s.laid(2, 1, 0), 10);
        Check.same("the sum", s.laidInAll(), 90L);
        Check.same("planned", s.planned(), 60L);
    }
}

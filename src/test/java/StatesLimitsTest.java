/** The terms states and laying, of promises 20 to 34: each state, each call in it, the first and the last command. */
public final class StatesLimitsTest {
    public static void main(String[] args) {
        idleAtFirst();
        passOfOneAndOf200();
        passCountsWhatIsOver();
        passBehindTheEnd();
        passUpToAPause();
        passWhenNothingIsDone();
        timeIsNeverSetBack();
        printFromEachState();
        printTakesWhatWasLaid();
        printOfTheLeast();
        doneInTheLastTick();
        pausedInItsTick();
        goOnCountsWhatIsLeft();
        goOnBehindTheOnlyPauses();
        failInEachState();
        failedDoesNothing();
        mendInEachState();
        mendedMoveGoesOn();
        cutInEachState();
        cutAgain();
        whatIsNextStays();
        cutPrints();
        resumeWithTheFirst();
        resumeWithTheKeptLayer();
        resumeWithTheLastLayer();
        keptIsForgottenByPrint();
        keptStaysBehindAResume();
        headBehindAResume();
        resumeAtLast();
        layEachLength();
        layAtTheEnd();
        laySupports();
        layEmptyCells();
        layThicknessAsPlanned();
        layAgain();
        layAll();
        callsTo512();
        Check.end();
    }

    /** One cell in each of three layers: the commands 0 'z', 1 'd', 2 'z', 3 'd', 4 'z' and 5 'd', one tick each. */
    private static SliceWright three() {
        SliceWright s = new SliceWright();
        s.box(0, 0, 0, 1, 1, 3, true);
        s.plan();
        return Prints.warm(s);
    }

    // ---- a new object, pass, time

    private static void idleAtFirst() {
        Check.about("and an idle machine without commands");
        SliceWright s = new SliceWright();
        Prints.now(s, "new", 'i', 0, 0);
        Check.same("commands", s.commands(), 0);
        Check.same("time", s.time(), 0L);
        Check.same("laid", s.laidInAll(), 0L);
        Check.same("nothing is over", s.pass(200), 0);
        Prints.now(s, "new, behind 200 ticks", 'i', 0, 0);
        Check.same("time", s.time(), 200L);
    }

    private static void passOfOneAndOf200() {
        Check.about("ticks: the number of ticks, 1 to 200");
        SliceWright s = new SliceWright();
        Check.same("one", s.pass(1), 0);
        Check.same("time", s.time(), 1L);
        Check.same("two", s.pass(2), 0);
        Check.same("time", s.time(), 3L);
        Check.same("199", s.pass(199), 0);
        Check.same("time", s.time(), 202L);
        Check.same("200", s.pass(200), 0);
        Check.same("time", s.time(), 402L);
        Check.refuses("none", IllegalArgumentException.class, () -> s.pass(0));
        Check.refuses("201", IllegalArgumentException.class, () -> s.pass(201));
        Check.same("time", s.time(), 402L);
    }

    private static void passCountsWhatIsOver() {
        Check.about("Returns the number of commands that are over by this.");
        SliceWright s = three();
        Check.same("one tick, one command", s.pass(1), 1);
        Check.same("two ticks, two commands", s.pass(2), 2);
        Prints.now(s, "three are over", 'r', 3, 0);
        Check.same("more ticks than commands", s.pass(200), 3);
        Prints.now(s, "all are over", 'd', 6, 0);
        s = Prints.warm(Prints.bar(2));
        Check.same("both, just in time", s.pass(7), 2);
        s = Prints.warm(Prints.bar(2));
        Check.same("one tick less", s.pass(6), 1);
        Prints.now(s, "the last tick is left", 'r', 1, 1);
        Check.same("the last tick", s.pass(1), 1);
    }

    private static void passBehindTheEnd() {
        Check.about("'d' all commands were done");
        SliceWright s = three();
        Check.same("six commands", s.pass(6), 6);
        for (int times = 0; times < 3; times++) {
            Check.same("nothing more", s.pass(200), 0);
            Prints.now(s, "done", 'd', 6, 0);
        }
        Check.same("time goes on", s.time(), 706L);
    }

    private static void passUpToAPause() {
        Check.about("'p' it is paused, by a 'p' that was done");
        SliceWright s = new SliceWright();
        s.box(0, 0, 0, 1, 1, 2, true);
        s.setPause(0, true);
        s.setPause(1, true);
        s.plan();
        Prints.warm(s);
        Check.same("up to the first 'p'", s.pass(200), 2);
        Prints.now(s, "paused", 'p', 2, 0);
        s.goOn();
        Check.same("up to the second one", s.pass(200), 3);
        Prints.now(s, "paused again", 'p', 5, 0);
        s.goOn();
        Check.same("up to the end", s.pass(200), 1);
        Prints.now(s, "done", 'd', 6, 0);
    }

    private static void passWhenNothingIsDone() {
        Check.about("'i' idle: nothing is printed. .. 'p' it is paused .. 'f' .. nothing is done until it is mended");
        for (Situation situation : Situation.in("ipfd")) {
            SliceWright s = situation.made();
            int next = s.next();
            long laid = s.laidInAll();
            Check.same(situation + ": nothing is over", s.pass(200), 0);
            Prints.now(s, situation + "", situation.state, next, 0);
            Check.same(situation + ": nothing is laid", s.laidInAll(), laid);
        }
    }

    private static void timeIsNeverSetBack() {
        Check.about("Returns the number of ticks that have passed.");
        for (Situation situation : Situation.ALL) {
            SliceWright s = situation.made();
            long before = s.time();
            Check.answerOf(s::mend);
            Check.answerOf(s::goOn);
            Check.answerOf(s::fail);
            s.cut();
            Check.answerOf(s::resume);
            s.cut();
            s.plan();
            Check.answerOf(s::print);
            Check.same(situation + ": no call but pass takes time", s.time(), before);
            s.pass(7);
            Check.same(situation + ": pass does", s.time(), before + 7);
        }
    }

    // ---- print

    private static void printFromEachState() {
        Check.about("Begins a print: nothing is laid, the head is at 0, 0, and no command is done or kept.");
        for (Situation situation : Situation.in("id")) {
            if (situation.hasCommands) {
                SliceWright s = situation.made();
                int temperature = s.temperature();
                Check.same(situation + ": commands", s.print(), s.commands());
                Prints.now(s, situation + ", printed", 'r', 0, 0);
                Check.same(situation + ": laid", s.laidInAll(), 0L);
                Check.same(situation + ": temperature", s.temperature(), temperature);
                s.cut();
                Check.same(situation + ": none is kept", s.resume(), 0);
            }
        }
    }

    private static void printTakesWhatWasLaid() {
        Check.about("Begins a print: nothing is laid");
        SliceWright s = three();
        s.pass(6);
        for (int z = 0; z < 3; z++) {
            Check.same("laid at " + z, s.laid(0, 0, z), 10);
        }
        Check.same("target", s.setTarget(210), 200);
        s.print();
        for (int z = 0; z < 3; z++) {
            Check.same("laid at " + z + " in a new print", s.laid(0, 0, z), 0);
        }
        Check.same("laid in all", s.laidInAll(), 0L);
        Check.same("the target stays", s.setTarget(200), 210);
        Check.same("all again", s.pass(200), 6);
        Check.same("laid in all", s.laidInAll(), 30L);
    }

    private static void printOfTheLeast() {
        Check.about("Returns the number of commands.");
        SliceWright s = Prints.bar(1);
        Check.same("two commands", s.print(), 2);
        s = new SliceWright();
        s.plan();
        Check.refuses("no commands", IllegalStateException.class, s::print);
        Check.same("state", s.state(), 'i');
    }

    private static void doneInTheLastTick() {
        Check.about("Returns the number, as great as that of commands if all are done.");
        SliceWright s = three();
        for (int tick = 0; tick < 6; tick++) {
            Prints.now(s, "ahead of the tick " + tick, 'r', tick, 0);
            Check.same("the tick " + tick, s.pass(1), 1);
        }
        Prints.now(s, "behind the last tick", 'd', 6, 0);
        Check.same("commands", s.commands(), 6);
    }

    // ---- pauses

    private static SliceWright withPause() {
        SliceWright s = new SliceWright();
        s.box(0, 0, 0, 2, 1, 2, true);
        s.setPause(1, true);
        s.plan();
        return Prints.warm(s);
    }

    private static void pausedInItsTick() {
        Check.about("'p' it is paused, by a 'p' that was done");
        SliceWright s = withPause();
        Check.same("up to the 'p'", s.pass(8), 3);
        Prints.now(s, "ahead of the 'p'", 'r', 3, 0);
        Check.same("it is a 'p'", s.commandAt(3), 'p');
        Check.same("its tick", s.pass(1), 1);
        Prints.now(s, "behind it", 'p', 4, 0);
    }

    private static void goOnCountsWhatIsLeft() {
        Check.about("Goes on behind a pause. Returns the number of commands that are left.");
        SliceWright s = withPause();
        s.pass(9);
        Check.same("commands", s.commands(), 7);
        Check.same("left", s.goOn(), 3);
        Prints.now(s, "gone on", 'r', 4, 0);
        Check.same("the rest", s.pass(200), 3);
        Prints.now(s, "done", 'd', 7, 0);
    }

    private static void goOnBehindTheOnlyPauses() {
        Check.about("Returns the number of commands that are left. (the fewest)");
        SliceWright s = Prints.bar(1);
        s.setPause(0, true);
        s.plan();
        Prints.warm(s);
        s.pass(2);
        Check.same("one is left", s.goOn(), 1);
        Check.same("it", s.pass(1), 1);
        Prints.now(s, "done", 'd', 3, 0);
    }

    // ---- failures

    private static void failInEachState() {
        Check.about("Lets the machine fail. Returns the state before.");
        for (Situation situation : Situation.in("irwpd")) {
            SliceWright s = situation.made();
            int next = s.next();
            Check.same(situation + ": the state before", s.fail(), situation.state);
            Prints.now(s, situation + ", failed", 'f', next, 0);
        }
    }

    private static void failedDoesNothing() {
        Check.about("the speed 0 at once, and nothing is done until it is mended");
        for (Situation situation : Situation.in("irwpd")) {
            SliceWright s = situation.made();
            int next = s.next();
            s.setTarget(200);
            s.fail();
            Check.same(situation + ": nothing is over", s.pass(200), 0);
            Prints.now(s, situation + ", failed", 'f', next, 0);
        }
    }

    private static void mendInEachState() {
        Check.about("Mends the machine: its state is what it was when it failed. Returns this state.");
        for (Situation situation : Situation.in("irwpd")) {
            SliceWright s = situation.made();
            int next = s.next();
            for (int times = 0; times < 2; times++) {
                s.fail();
                s.pass(3);
                Check.same(situation + ": mended", s.mend(), situation.state);
                Prints.now(s, situation + ", mended", situation.state, next, 0);
            }
        }
        SliceWright s = withPause();
        s.fail();
        s.mend();
        s.setTarget(200);
        s.pass(9);
        Check.same("the state of the last failure", s.fail(), 'p');
        Check.same("not of the one before", s.mend(), 'p');
    }

    private static void mendedMoveGoesOn() {
        Check.about("a move goes on from the speed 0 then");
        SliceWright s = Prints.warm(Prints.bar(3));
        s.pass(4);
        Prints.now(s, "6 of 20", 'r', 1, 3);
        s.fail();
        s.mend();
        s.setTarget(200);
        int[] due = {1, 2, 3, 3, 2, 2, 0};
        for (int tick = 0; tick < due.length; tick++) {
            Check.same("over in the tick " + tick, s.pass(1), tick == due.length - 1 ? 1 : 0);
            Check.same("speed in the tick " + tick, s.speed(), due[tick]);
        }
        Check.same("laid once", s.laidInAll(), 30L);
    }

    // ---- cuts

    private static void cutInEachState() {
        Check.about("When the power is cut, the state is 'i', whatever it was, .. and the speed 0");
        for (Situation situation : Situation.ALL) {
            SliceWright s = situation.made();
            int next = s.next();
            long laid = s.laidInAll();
            int temperature = s.temperature();
            Check.same(situation + ": the state before", s.cut(), situation.state);
            Prints.now(s, situation + ", cut", 'i', next, 0);
            Check.same(situation + ": laid", s.laidInAll(), laid);
            Check.same(situation + ": temperature", s.temperature(), temperature);
            Check.refuses(situation + ": not failed any more", IllegalStateException.class, s::mend);
            Check.refuses(situation + ": not paused any more", IllegalStateException.class, s::goOn);
        }
    }

    private static void cutAgain() {
        Check.about("Cuts the power. Returns the state before.");
        SliceWright s = three();
        s.pass(3);
        Check.same("cut", s.cut(), 'r');
        Check.same("cut again", s.cut(), 'i');
        Check.same("and again", s.cut(), 'i');
        Check.same("what was cut goes on", s.resume(), 2);
        Check.same("cut at once", s.cut(), 'r');
        Check.same("goes on again", s.resume(), 2);
    }

    private static void whatIsNextStays() {
        Check.about("what is next stays so until it goes on");
        SliceWright s = three();
        s.pass(4);
        s.cut();
        Check.same("next", s.next(), 4);
        s.setTarget(200);
        Check.same("nothing is over", s.pass(200), 0);
        Check.same("next, behind ticks", s.next(), 4);
        s.fail();
        s.mend();
        Check.same("next, mended", s.next(), 4);
        s.cut();
        Check.same("next, cut again", s.next(), 4);
        Check.same("the kept 'z'", s.resume(), 2);
        Check.same("next, gone on", s.next(), 2);
        s.setTarget(200);
        s.pass(200);
        s.cut();
        Check.same("next, cut when done", s.next(), 6);
    }

    private static void cutPrints() {
        Check.about("A print is cut if it was 'r', 'w' or 'p', or 'f' behind one of these.");
        for (Situation situation : Situation.ALL) {
            SliceWright s = situation.made();
            boolean isPrint = "rwp".indexOf(situation.state) >= 0 || situation.isCut
                    || situation.toString().matches("failed in [rwp]");
            s.cut();
            if (isPrint) {
                Check.same(situation + ": it goes on", Check.answerOf(s::resume) instanceof Integer, true);
                Check.same(situation + ": state", s.state(), 'r');
            } else {
                Check.refuses(situation + ": no print was cut", IllegalStateException.class, s::resume);
                Check.same(situation + ": state", s.state(), 'i');
            }
        }
    }

    // ---- resume

    private static void resumeWithTheFirst() {
        Check.about("or with the first command if none was kept since the print began");
        SliceWright s = three();
        s.cut();
        Check.same("ahead of the first tick", s.resume(), 0);
        Prints.now(s, "gone on", 'r', 0, 0);
        s.pass(1);
        s.cut();
        Check.same("behind the first 'z'", s.resume(), 0);
        s = Prints.bar(3);
        s.setPause(0, true);
        s.plan();
        s.print();
        s.fail();
        s.cut();
        Check.same("failed ahead of the first tick", s.resume(), 0);
        Check.same("all from the first one", s.pass(200), 2);
        s.cut();
        Check.same("in the pause", s.resume(), 0);
    }

    private static void resumeWithTheKeptLayer() {
        Check.about("When a 'z' is done, it is kept. .. it begins anew with the kept 'z'");
        int[] due = {0, 0, 0, 2, 2, 4};
        for (int ticks = 0; ticks < 6; ticks++) {
            SliceWright s = three();
            if (ticks > 0) {
                s.pass(ticks);
            }
            Check.same("next behind " + ticks, s.next(), ticks);
            s.cut();
            Check.same("behind " + ticks + " ticks", s.resume(), due[ticks]);
            Prints.now(s, "behind " + ticks + " ticks", 'r', due[ticks], 0);
            s.setTarget(200);
            Check.same("the rest", s.pass(200), 6 - due[ticks]);
            Prints.now(s, "the rest", 'd', 6, 0);
        }
    }

    private static void resumeWithTheLastLayer() {
        Check.about("it begins anew with the kept 'z'");
        SliceWright s = Prints.warm(Prints.bar(12));
        s.pass(31);
        Prints.now(s, "the last tick is left", 'r', 1, 2);
        s.cut();
        Check.same("the last 'z' is the first", s.resume(), 0);
        s = three();
        s.pass(5);
        s.cut();
        Check.same("the last 'z'", s.resume(), 4);
        s = three();
        s.pass(6);
        s.cut();
        Check.refuses("done", IllegalStateException.class, s::resume);
    }

    private static void keptIsForgottenByPrint() {
        Check.about("if none was kept since the print began");
        SliceWright s = three();
        s.pass(5);
        s.cut();
        s.print();
        s.cut();
        Check.same("printed anew and cut at once", s.resume(), 0);
        s = three();
        s.pass(6);
        s.print();
        s.cut();
        Check.same("printed anew when done, and cut at once", s.resume(), 0);
        s = three();
        s.pass(5);
        s.cut();
        s.plan();
        s.print();
        s.cut();
        Check.same("planned and printed anew, and cut at once", s.resume(), 0);
    }

    private static void keptStaysBehindAResume() {
        Check.about("it begins anew with the kept 'z', or with the first command if none was kept since the "
                + "print began");
        SliceWright s = three();
        s.pass(3);
        s.cut();
        Check.same("the second 'z'", s.resume(), 2);
        s.cut();
        Check.same("again, it was not done anew", s.resume(), 2);
        s.setTarget(200);
        s.pass(3);
        s.cut();
        Check.same("the third 'z' was done", s.resume(), 4);
    }

    private static void headBehindAResume() {
        Check.about("the head is then where the plan has it ahead of this command");
        SliceWright s = new SliceWright();
        s.box(0, 0, 0, 4, 1, 1, true);
        s.box(11, 0, 2, 1, 1, 1, true);
        s.set('r', 22);
        s.plan();
        Check.same("the plan", PlanTest.text(s), "z0 d3,0=40 z2 g11,0 d11,0=10");
        Prints.warm(s);
        s.pass(12);
        Check.same("the stroke of 30 takes eleven ticks", s.next(), 2);
        s.pass(1);
        int way = ticksOfOne(s);
        Check.same("the way of 80", way, 17);
        s.cut();
        Check.same("the 'z' behind the stroke", s.resume(), 2);
        s.setTarget(200);
        Check.same("the 'z' takes a tick", ticksOfOne(s), 1);
        Check.same("the way is as long as it was", ticksOfOne(s), way);
        Check.same("the stroke of one cell", ticksOfOne(s), 1);
        Prints.now(s, "done", 'd', 5, 0);
        Check.same("laid", s.laidInAll(), 50L);
    }

    private static int ticksOfOne(SliceWright s) {
        int ticks = 1;
        while (s.pass(1) == 0 && ticks < 100) {
            ticks++;
        }
        return ticks;
    }

    private static void resumeAtLast() {
        Check.about("Planning and printing anew end what was cut.");
        SliceWright s = three();
        s.pass(3);
        s.cut();
        s.plan();
        Check.refuses("planned anew", IllegalStateException.class, s::resume);
        s = three();
        s.pass(3);
        s.cut();
        s.print();
        Check.refuses("printed anew, it prints", IllegalStateException.class, s::resume);
        s.setTarget(200);
        s.pass(200);
        Check.refuses("done", IllegalStateException.class, s::resume);
        s.cut();
        Check.refuses("done and cut", IllegalStateException.class, s::resume);
        s = three();
        s.pass(3);
        s.cut();
        s.pass(200);
        s.box(0, 0, 0, 12, 12, 12, true);
        s.set('w', 3);
        Check.same("other calls do not end it", s.resume(), 2);
    }

    // ---- what is laid

    /** A stroke of some cells from a place on, drawn to the other end or, with the head there, back. */
    private static void lay(int z, int first, int last, boolean isBack) {
        boolean isAlongX = z % 2 == 0;
        int cells = last - first + 1;
        SliceWright s = new SliceWright();
        s.set('r', 22);
        if (isBack) {
            s.box(isAlongX ? last : 7, isAlongX ? 7 : last, z - 2, 1, 1, 1, true);
        }
        s.box(isAlongX ? first : 7, isAlongX ? 7 : first, z, isAlongX ? cells : 1, isAlongX ? 1 : cells, 1, true);
        s.setThickness(z, 3);
        int commands = s.plan();
        String what = "layer " + z + ", from " + first + " to " + last + ", back " + isBack;
        int end = isBack ? first : last;
        Check.same(what + ": the end", s.numberAt(commands - 1, isAlongX ? 'x' : 'y'), end);
        Prints.warm(s);
        s.pass(200);
        Check.same(what + ": done", s.state(), 'd');
        for (int place = 0; place < 12; place++) {
            int due = place >= first && place <= last ? 30 : 0;
            Check.same(what + ": at " + place, s.laid(isAlongX ? place : 7, isAlongX ? 7 : place, z), due);
            Check.same(what + ": beside " + place, s.laid(isAlongX ? place : 8, isAlongX ? 8 : place, z), 0);
            Check.same(what + ": above " + place, s.laid(isAlongX ? place : 7, isAlongX ? 7 : place, z + 1), 0);
        }
        Check.same(what + ": in all", s.laidInAll(), 30L * cells + (isBack ? 10 : 0));
    }

    private static void layEachLength() {
        Check.about("When a 'd' is over, each cell of its stroke gets 10 times the thickness");
        for (int z = 4; z <= 5; z++) {
            for (int back = 0; back < 2; back++) {
                lay(z, 0, 11, back == 1);
                lay(z, 0, 0, back == 1);
                lay(z, 11, 11, back == 1);
                lay(z, 0, 1, back == 1);
                lay(z, 10, 11, back == 1);
                lay(z, 4, 5, back == 1);
                lay(z, 3, 5, back == 1);
            }
        }
    }

    private static void layAtTheEnd() {
        Check.about("When a 'd' is over");
        SliceWright s = Prints.warm(Prints.bar(3));
        s.pass(8);
        Prints.now(s, "the last tick is left", 'r', 1, 2);
        Check.same("nothing in all", s.laidInAll(), 0L);
        Check.same("nothing in the first cell", s.laid(0, 0, 0), 0);
        s.pass(1);
        Check.same("all of it", s.laidInAll(), 30L);
        Check.same("the first cell", s.laid(0, 0, 0), 10);
        Check.same("the last cell", s.laid(2, 0, 0), 10);
        Check.same("the cell behind it", s.laid(3, 0, 0), 0);
    }

    private static void laySupports() {
        Check.about("each cell of its stroke gets 10 times the thickness (supports too)");
        SliceWright s = new SliceWright();
        s.box(4, 4, 2, 1, 1, 1, true);
        s.set('s', 1);
        s.setThickness(0, 2);
        s.plan();
        Prints.warm(s);
        s.pass(200);
        Check.same("on the bed", s.laid(4, 4, 0), 20);
        Check.same("above it", s.laid(4, 4, 1), 10);
        Check.same("the cell that hangs", s.laid(4, 4, 2), 10);
        Check.same("in all", s.laidInAll(), 40L);
    }

    private static void layEmptyCells() {
        Check.about("each cell of its stroke (none is of an empty one)");
        SliceWright s = new SliceWright();
        s.box(0, 0, 0, 3, 3, 1, true);
        s.set('k', 0);
        s.plan();
        Check.same("empty", s.kindAt(1, 1, 0), 'e');
        Prints.warm(s);
        s.pass(200);
        Check.same("done", s.state(), 'd');
        Check.same("nothing in it", s.laid(1, 1, 0), 0);
        Check.same("beside it", s.laid(0, 1, 0), 10);
        Check.same("in all", s.laidInAll(), 80L);
    }

    private static void layThicknessAsPlanned() {
        Check.about("10 times the thickness as it was when the commands were made");
        for (int thickness = 1; thickness <= 3; thickness++) {
            SliceWright s = new SliceWright();
            s.box(0, 0, 11, 1, 2, 1, true);
            s.setThickness(11, thickness);
            s.plan();
            s.setThickness(11, 4 - thickness);
            Prints.warm(s);
            s.setThickness(11, 1);
            s.pass(200);
            Check.same("the first cell", s.laid(0, 0, 11), 10 * thickness);
            Check.same("the second cell", s.laid(0, 1, 11), 10 * thickness);
            Check.same("in all", s.laidInAll(), 20L * thickness);
        }
    }

    private static void layAgain() {
        Check.about("Returns the sum. (of all that was laid since the print began)");
        SliceWright s = three();
        for (int times = 1; times <= 5; times++) {
            s.setTarget(200);
            s.pass(2);
            s.cut();
            Check.same("with the first layer", s.resume(), 0);
            Check.same("times laid", s.laid(0, 0, 0), 10 * times);
            Check.same("in all", s.laidInAll(), 10L * times);
        }
        s.setTarget(200);
        Check.same("to the end", s.pass(200), 6);
        Check.same("the first layer", s.laid(0, 0, 0), 60);
        Check.same("the last layer", s.laid(0, 0, 2), 10);
        Check.same("in all", s.laidInAll(), 80L);
        Check.same("planned", s.planned(), 30L);
    }

    private static SliceWright fullPrint() {
        SliceWright s = new SliceWright();
        s.box(0, 0, 0, 12, 12, 12, true);
        for (int z = 0; z < 12; z++) {
            s.setThickness(z, 1 + z % 3);
        }
        s.plan();
        Prints.warm(s);
        for (int times = 0; times < 60; times++) {
            s.pass(200);
        }
        return s;
    }

    private static void layAll() {
        Check.about("Returns the sum of all that was laid. (of a full body: what was planned)");
        SliceWright s = fullPrint();
        Check.same("done", s.state(), 'd');
        Check.same("next", s.next(), s.commands());
        Check.same("laid in all", s.laidInAll(), s.planned());
        for (int z : new int[] {0, 5, 6, 11}) {
            s = fullPrint();
            for (int cell = 0; cell < 144; cell++) {
                int x = cell % 12;
                int y = cell / 12;
                int due = s.kindAt(x, y, z) == 'e' ? 0 : 10 * (1 + z % 3);
                Check.same("laid at " + x + ", " + y + ", " + z, s.laid(x, y, z), due);
            }
        }
    }

    private static void callsTo512() {
        Check.about("An object is used for at most 512 calls after it has been made");
        SliceWright s = new SliceWright();
        for (int call = 1; call <= 511; call++) {
            Check.same("the call " + call, s.pass(200), 0);
        }
        Check.same("the last call", s.time(), 102200L);
        s = new SliceWright();
        s.box(0, 0, 0, 12, 12, 12, true);
        for (int call = 2; call <= 511; call++) {
            Check.same("the call " + call, s.plan() > 0, true);
        }
        Check.same("the last call", s.planned(), 10280L);
    }
}

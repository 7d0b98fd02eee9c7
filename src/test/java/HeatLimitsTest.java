/** The term heat, of promises 20, 22 and 31: the least and the greatest target, the band, and what a 'd' asks for. */
public final class HeatLimitsTest {
    public static void main(String[] args) {
        atFirst();
        leastAndGreatestTarget();
        targetBefore();
        notBelow20();
        lessThanTheTargetLess2();
        greaterThanTheTargetPlus2();
        onUntilBeyondTheBand();
        offUntilBelowTheBand();
        targetsThatNeverHeat();
        greatestHeat();
        inEachState();
        aheadOfWhatIsDone();
        leastTargetOfADraw();
        leastHeatOfADraw();
        leastHeatOfTheGreatestTarget();
        hotterThanTheTarget();
        coldCommands();
        waitsAndGoesOn();
        waitsInOneCell();
        targetWhenItFails();
        targetWhenItIsCut();
        heaterWhenItIsCut();
        Check.end();
    }

    /** Heats from 20 to 50, where the heater is on. */
    private static SliceWright at50() {
        SliceWright s = new SliceWright();
        s.setTarget(100);
        s.pass(10);
        Check.same("heated", s.temperature(), 50);
        return s;
    }

    /** Heats to 53 and lets it fall to 50, where the heater is off. */
    private static SliceWright fallenTo50() {
        SliceWright s = at50();
        s.pass(1);
        s.setTarget(0);
        s.pass(3);
        Check.same("fallen", s.temperature(), 50);
        return s;
    }

    private static void tick(SliceWright s, String what, int want) {
        s.pass(1);
        Check.same(what, s.temperature(), want);
    }

    private static void atFirst() {
        Check.about("The temperature is 20 at first, and the target 0.");
        SliceWright s = new SliceWright();
        Check.same("temperature", s.temperature(), 20);
        Check.same("target", s.setTarget(0), 0);
        tick(s, "a tick", 20);
        s.pass(200);
        Check.same("200 ticks", s.temperature(), 20);
    }

    private static void leastAndGreatestTarget() {
        Check.about("the target, 0 to 300");
        SliceWright s = new SliceWright();
        Check.same("the greatest", s.setTarget(300), 0);
        Check.same("the least", s.setTarget(0), 300);
        Check.same("1", s.setTarget(1), 0);
        Check.same("299", s.setTarget(299), 1);
        Check.same("the greatest again", s.setTarget(300), 299);
        Check.refuses("1 more", IllegalArgumentException.class, () -> s.setTarget(301));
        Check.refuses("1 less than the least", IllegalArgumentException.class, () -> s.setTarget(-1));
        Check.same("kept", s.setTarget(300), 300);
    }

    private static void targetBefore() {
        Check.about("Returns the target before.");
        for (Situation situation : Situation.in("irwpd")) {
            SliceWright s = situation.made();
            int before = s.setTarget(123);
            Check.same(situation + ": a target there", before == 0 || before == 200, true);
            Check.same(situation + ": the target before", s.setTarget(0), 123);
            Check.same(situation + ": the least before", s.setTarget(300), 0);
            Check.same(situation + ": the state", s.state(), situation.state);
        }
    }

    private static void notBelow20() {
        Check.about("falls by 1, but not below 20, if it is off");
        SliceWright s = new SliceWright();
        s.setTarget(23);
        tick(s, "it rises by 3", 23);
        s.setTarget(0);
        tick(s, "it falls by 1", 22);
        tick(s, "it falls by 1", 21);
        tick(s, "it falls to 20", 20);
        tick(s, "not below", 20);
        s.pass(200);
        Check.same("never below", s.temperature(), 20);
    }

    private static void lessThanTheTargetLess2() {
        Check.about("the heater is turned on if the temperature is less than the target less 2");
        int[] due = {49, 49, 49, 53, 53};
        for (int target = 50; target <= 54; target++) {
            SliceWright s = fallenTo50();
            s.setTarget(target);
            tick(s, "off at 50, the target " + target, due[target - 50]);
        }
        int[] dueAt20 = {20, 20, 23};
        for (int target = 21; target <= 23; target++) {
            SliceWright s = new SliceWright();
            s.setTarget(target);
            tick(s, "off at 20, the target " + target, dueAt20[target - 21]);
        }
    }

    private static void greaterThanTheTargetPlus2() {
        Check.about("and off if it is greater than the target plus 2");
        int[] due = {49, 49, 53, 53, 53};
        for (int target = 46; target <= 50; target++) {
            SliceWright s = at50();
            s.setTarget(target);
            tick(s, "on at 50, the target " + target, due[target - 46]);
        }
    }

    private static void onUntilBeyondTheBand() {
        Check.about("then the temperature rises by 3 if it is on");
        SliceWright s = at50();
        s.setTarget(54);
        tick(s, "4 less", 53);
        tick(s, "1 less", 56);
        tick(s, "2 more", 59);
        tick(s, "5 more", 58);
    }

    private static void offUntilBelowTheBand() {
        Check.about("and falls by 1 .. if it is off");
        SliceWright s = fallenTo50();
        s.setTarget(50);
        tick(s, "at the target", 49);
        tick(s, "1 less", 48);
        tick(s, "2 less", 47);
        tick(s, "3 less", 50);
        tick(s, "at the target, on", 53);
        tick(s, "3 more", 52);
    }

    private static void targetsThatNeverHeat() {
        Check.about("the heater is turned on if the temperature is less than the target less 2");
        for (int target = 0; target <= 22; target++) {
            SliceWright s = new SliceWright();
            s.setTarget(target);
            s.pass(200);
            Check.same("the target " + target, s.temperature(), 20);
        }
    }

    private static void greatestHeat() {
        Check.about("the target, 0 to 300; .. off if it is greater than the target plus 2");
        SliceWright s = new SliceWright();
        s.setTarget(300);
        s.pass(94);
        Check.same("94 ticks", s.temperature(), 302);
        tick(s, "2 more than the target is not greater", 305);
        for (int due = 304; due >= 297; due--) {
            tick(s, "it falls", due);
        }
        tick(s, "3 less than the target", 300);
        tick(s, "within the band", 303);
        tick(s, "3 more than the target", 302);
    }

    private static void inEachState() {
        Check.about("In each tick that passes, also when the machine is idle");
        for (Situation situation : Situation.ALL) {
            SliceWright s = situation.made();
            long time = s.time();
            int before = s.temperature();
            if (situation.state != 'f') {
                s.setTarget(0);
            }
            s.pass(1);
            Check.same(situation + ": it falls", s.temperature(), Math.max(before - 1, 20));
            Check.same(situation + ": time", s.time(), time + 1);
            s.pass(200);
            Check.same(situation + ": it falls to 20", s.temperature(), 20);
            Check.same(situation + ": time", s.time(), time + 201);
            if (situation.state != 'f') {
                s.setTarget(300);
                s.pass(1);
                Check.same(situation + ": it rises", s.temperature(), 23);
            }
        }
    }

    private static void aheadOfWhatIsDone() {
        Check.about("In each tick .. ahead of what is done: the heater is turned on ..; then the temperature rises");
        SliceWright s = Prints.bar(3);
        s.setTarget(150);
        s.pass(39);
        Check.same("13 less than the target", s.temperature(), 137);
        s.print();
        Check.same("the 'z'", s.pass(1), 1);
        Check.same("10 less than the target", s.temperature(), 140);
        s = Prints.bar(3);
        s.setTarget(150);
        s.print();
        s.pass(39);
        Check.same("too cold", s.state(), 'w');
        s.pass(1);
        Check.same("warm enough by the tick itself", s.state(), 'r');
        Check.same("and drawn in it", s.speed(), 1);
    }

    private static void leastTargetOfADraw() {
        Check.about("A tick of 'd' is only done if the target is at least 150");
        int[] targets = {0, 1, 149, 150, 151};
        for (int target : targets) {
            SliceWright s = Prints.bar(3);
            s.setTarget(150);
            s.pass(50);
            s.print();
            s.pass(1);
            s.setTarget(target);
            s.pass(1);
            Check.same("target " + target, s.state(), target >= 150 ? 'r' : 'w');
            Check.same("target " + target + ": speed", s.speed(), target >= 150 ? 1 : 0);
        }
    }

    private static void leastHeatOfADraw() {
        Check.about("and the temperature is not less than the target less 10");
        for (int target = 150; target <= 170; target++) {
            SliceWright s = Prints.bar(3);
            s.setTarget(target);
            s.print();
            s.pass(45);
            Check.same("heated", s.temperature(), 155);
            Check.same("target " + target, s.state(), target <= 165 ? 'r' : 'w');
        }
    }

    private static void leastHeatOfTheGreatestTarget() {
        Check.about("and the temperature is not less than the target less 10");
        SliceWright s = Prints.bar(3);
        s.setTarget(300);
        s.print();
        s.pass(89);
        Check.same("13 less", s.temperature(), 287);
        Check.same("it waits", s.state(), 'w');
        s.pass(1);
        Check.same("10 less", s.temperature(), 290);
        Check.same("it draws", s.state(), 'r');
    }

    private static void hotterThanTheTarget() {
        Check.about("and the temperature is not less than the target less 10 (it may be far greater)");
        SliceWright s = Prints.bar(3);
        s.setTarget(300);
        s.pass(94);
        s.print();
        s.setTarget(150);
        s.pass(2);
        Check.same("150 more", s.temperature(), 300);
        Check.same("it draws", s.state(), 'r');
        Check.same("its speed", s.speed(), 1);
    }

    private static void coldCommands() {
        Check.about("A tick of 'd' is only done if .. (other commands need no heat)");
        SliceWright s = new SliceWright();
        s.box(3, 3, 0, 1, 1, 1, true);
        s.setPause(0, true);
        s.plan();
        s.print();
        Check.same("a cold 'z'", s.pass(1), 1);
        Check.same("a cold 'p'", s.pass(1), 1);
        s.goOn();
        Check.same("a cold 'r'", s.pass(1), 1);
        Check.same("a cold 'g' and 'u'", s.pass(11), 2);
        Check.same("it prints", s.state(), 'r');
        Check.same("the 'd' is next", s.next(), 5);
        Check.same("a cold 'd'", s.pass(1), 0);
        Check.same("it waits", s.state(), 'w');
        Check.same("nothing is laid", s.laidInAll(), 0L);
    }

    private static void waitsAndGoesOn() {
        Check.about("otherwise the machine waits in this tick; 'w' it waited in the last tick for the heat");
        SliceWright s = Prints.bar(3);
        s.print();
        Check.same("the 'z'", s.pass(1), 1);
        Check.same("it has not waited so far", s.state(), 'r');
        Check.same("it waits", s.pass(200), 0);
        Check.same("state", s.state(), 'w');
        Check.same("next", s.next(), 1);
        s.setTarget(200);
        Check.same("state, until a tick passes", s.state(), 'w');
        s.pass(56);
        Check.same("188", s.temperature(), 188);
        Check.same("it waits", s.state(), 'w');
        s.pass(1);
        Check.same("191", s.temperature(), 191);
        Check.same("it goes on", s.state(), 'r');
        s.setTarget(0);
        Check.same("state, until a tick passes", s.state(), 'r');
        s.pass(1);
        Check.same("it waits again", s.state(), 'w');
    }

    private static void waitsInOneCell() {
        Check.about("A tick of 'd' is only done if .. (one of the length 0 too)");
        SliceWright s = Prints.bar(1);
        s.print();
        Check.same("the 'z' alone", s.pass(200), 1);
        Check.same("it waits", s.state(), 'w');
        Check.same("nothing is laid", s.laid(0, 0, 0), 0);
        s.setTarget(149);
        s.pass(100);
        Check.same("it waits still", s.state(), 'w');
        s.setTarget(150);
        Check.same("the 'd'", s.pass(1), 1);
        Check.same("it is done", s.state(), 'd');
        Check.same("laid", s.laid(0, 0, 0), 10);
    }

    private static void targetWhenItFails() {
        Check.about("'f' it has failed: the target is 0 then");
        for (Situation situation : Situation.in("irwpd")) {
            SliceWright s = situation.made();
            s.setTarget(222);
            s.fail();
            s.mend();
            Check.same(situation + ": the target", s.setTarget(1), 0);
        }
    }

    private static void targetWhenItIsCut() {
        Check.about("When the power is cut, .. the target is 0");
        for (Situation situation : Situation.ALL) {
            SliceWright s = situation.made();
            if (situation.state != 'f') {
                s.setTarget(222);
            }
            s.cut();
            Check.same(situation + ": the target", s.setTarget(1), 0);
        }
    }

    private static void heaterWhenItIsCut() {
        Check.about("When the power is cut, .. the heater is off");
        SliceWright s = at50();
        s.setTarget(50);
        tick(s, "it is on, within the band", 53);
        s.cut();
        s.setTarget(53);
        tick(s, "it is off, within the band", 52);
        s.setTarget(54);
        tick(s, "it stays off, within the band", 51);
        tick(s, "and is turned on below", 54);
    }
}

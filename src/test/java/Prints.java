/** What the tests of the machine share: a body of one stroke, a print of a warm machine, and what it shows. */
final class Prints {
    private Prints() {
    }

    /** One stroke of the cells 0 to some x at y = 0, planned. */
    static SliceWright bar(int cells) {
        SliceWright s = new SliceWright();
        s.box(0, 0, 0, cells, 1, 1, true);
        s.plan();
        return s;
    }

    /** The same object, when the machine is warm and prints; 100 ticks have passed. */
    static SliceWright warm(SliceWright s) {
        s.setTarget(200);
        s.pass(100);
        s.print();
        return s;
    }

    static void now(SliceWright s, String what, char state, int next, int speed) {
        Check.same(what + ": state", s.state(), state);
        Check.same(what + ": next", s.next(), next);
        Check.same(what + ": speed", s.speed(), speed);
    }

    /** The speeds of ticks that go on in one command, which only the last of them ends. */
    static void speeds(SliceWright s, String what, int... speeds) {
        for (int tick = 0; tick < speeds.length; tick++) {
            Check.same(what + ": over in tick " + tick, s.pass(1), tick == speeds.length - 1 ? 1 : 0);
            Check.same(what + ": speed in tick " + tick, s.speed(), speeds[tick]);
        }
    }
}

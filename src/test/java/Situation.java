import java.util.ArrayList;
import java.util.EnumMap;
import java.util.List;
import java.util.Map;

/** A state that an object can be brought into, with all that is asked of it there. */
final class Situation {
    private final String name;
    private final Check.Maker maker;
    private final Map<Probe, String> told = new EnumMap<>(Probe.class);
    /** What the document's conditions of refusals ask for. */
    final char state;
    final boolean hasCommands;
    final boolean isCut;

    private Situation(String name, char state, boolean hasCommands, boolean isCut, Check.Maker maker) {
        this.name = name;
        this.state = state;
        this.hasCommands = hasCommands;
        this.isCut = isCut;
        this.maker = maker;
    }

    static final List<Situation> ALL = List.of(
            new Situation("new", 'i', false, false, SliceWright::new),
            new Situation("full", 'i', false, false, Situation::full),
            new Situation("emptied", 'i', false, false, Situation::emptied),
            new Situation("planned", 'i', true, false, Situation::planned),
            new Situation("travelling", 'r', true, false, () -> printing(90)),
            new Situation("drawing", 'r', true, false, () -> printing(13)),
            new Situation("waiting", 'w', true, false, () -> waiting(12)),
            new Situation("paused", 'p', true, false, () -> printing(107)),
            new Situation("failed in i", 'f', true, false, () -> failed(planned())),
            new Situation("failed in r", 'f', true, false, () -> failed(printing(13))),
            new Situation("failed in w", 'f', true, false, () -> failed(waiting(12))),
            new Situation("failed in p", 'f', true, false, () -> failed(printing(107))),
            new Situation("failed in d", 'f', true, false, () -> failed(done())),
            new Situation("mended", 'r', true, false, () -> mended(failed(printing(13)))),
            new Situation("done", 'd', true, false, Situation::done),
            new Situation("done and cut", 'i', true, false, () -> cut(done())),
            new Situation("cut and planned", 'i', true, false, () -> plannedAnew(cut(goneOn()))),
            new Situation("cut and printed anew", 'i', true, false, () -> cut(printedAnew(cut(goneOn())))),
            new Situation("cut in r", 'i', true, true, () -> cut(goneOn())),
            new Situation("cut in w", 'i', true, true, () -> cut(waiting(12))),
            new Situation("cut in p", 'i', true, true, () -> cut(printing(107))),
            new Situation("cut in f", 'i', true, true, () -> cut(failed(printing(13)))),
            new Situation("cut and failed", 'f', true, true, () -> failed(cut(printing(13)))),
            new Situation("resumed", 'r', true, true, () -> resumed(cut(goneOn()))),
            new Situation("resumed and done", 'd', true, true, () -> toTheEnd(resumed(cut(goneOn())))));

    static List<Situation> in(String states) {
        List<Situation> found = new ArrayList<>();
        for (Situation situation : ALL) {
            if (states.indexOf(situation.state) >= 0) {
                found.add(situation);
            }
        }
        return found;
    }

    SliceWright made() {
        return maker.made();
    }

    /** What a probe tells of an object that was not asked anything ahead of it. */
    String told(Probe probe) {
        return told.computeIfAbsent(probe, p -> p.tell(made()));
    }

    @Override
    public String toString() {
        return name;
    }

    private static SliceWright full() {
        SliceWright s = new SliceWright();
        s.box(0, 0, 0, 12, 12, 12, true);
        return s;
    }

    /** Settings other than the first ones, a hole, a pause, and all kinds of commands; 49 of them. */
    private static SliceWright planned() {
        SliceWright s = new SliceWright();
        s.box(1, 1, 0, 4, 4, 2, true);
        s.box(2, 2, 1, 1, 1, 1, false);
        s.box(7, 1, 3, 2, 1, 1, true);
        s.set('s', 1);
        s.set('g', 1);
        s.set('r', 2);
        s.set('d', 2);
        s.setPattern('g');
        s.setThickness(1, 2);
        s.setThickness(11, 3);
        s.setPause(1, true);
        s.setPause(11, true);
        s.plan();
        return s;
    }

    private static SliceWright emptied() {
        SliceWright s = printing(13);
        s.cut();
        s.box(0, 0, 0, 12, 12, 12, false);
        s.plan();
        return s;
    }

    private static SliceWright printing(int ticks) {
        SliceWright s = planned();
        s.setTarget(200);
        s.pass(80);
        s.print();
        s.pass(ticks);
        return s;
    }

    private static SliceWright waiting(int ticks) {
        SliceWright s = printing(ticks);
        s.setTarget(0);
        s.pass(1);
        return s;
    }

    private static SliceWright goneOn() {
        SliceWright s = printing(107);
        s.goOn();
        s.pass(20);
        return s;
    }

    private static SliceWright done() {
        SliceWright s = goneOn();
        s.pass(150);
        return s;
    }

    private static SliceWright plannedAnew(SliceWright s) {
        s.plan();
        return s;
    }

    /** To the end, so that a cut behind it cuts no print. */
    private static SliceWright printedAnew(SliceWright s) {
        s.print();
        return toTheEnd(s);
    }

    private static SliceWright toTheEnd(SliceWright s) {
        s.setTarget(200);
        s.pass(200);
        s.goOn();
        s.pass(200);
        return s;
    }

    private static SliceWright failed(SliceWright s) {
        s.fail();
        return s;
    }

    private static SliceWright mended(SliceWright s) {
        s.mend();
        return s;
    }

    private static SliceWright cut(SliceWright s) {
        s.cut();
        return s;
    }

    private static SliceWright resumed(SliceWright s) {
        s.resume();
        return s;
    }
}

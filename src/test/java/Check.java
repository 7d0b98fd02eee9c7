import java.util.Objects;

/** What the tests share: answers are compared, refusals are looked for, and a wrong one ends the test with 1. */
final class Check {
    interface Call {
        Object answer();
    }

    interface Maker {
        SliceWright made();
    }

    interface Use {
        Object of(SliceWright object);
    }

    private static int wrong = 0;
    private static int right = 0;

    private Check() {
    }

    static void same(String what, Object got, Object want) {
        if (Objects.equals(got, want)) {
            right++;
        } else {
            wrong++;
            System.out.println(what + " answered " + got + ", due is " + want);
        }
    }

    /** The exception is of the very class, so that one of the Java machine itself does not pass for it. */
    static void refuses(String what, Class<? extends RuntimeException> want, Call call) {
        Object got;
        try {
            got = call.answer();
        } catch (RuntimeException e) {
            got = e.getClass();
        }
        same(what, got, want);
    }

    /** A call that is refused on a new object changes nothing that other calls tell. */
    static void refusesUnchanged(String what, Class<? extends RuntimeException> want, Maker maker, Use use) {
        SliceWright object = maker.made();
        String before = tell(object);
        refuses(what, want, () -> use.of(object));
        same(what + " leaves all as it was", tell(object), before);
    }

    /** All figures of an object, in some seventy calls. */
    static String tell(SliceWright object) {
        StringBuilder text = new StringBuilder();
        for (int z = 0; z < 12; z++) {
            text.append(object.strokes(z)).append('/').append(object.edges(z)).append(' ');
        }
        for (char setting : "wkdsgr".toCharArray()) {
            int before = object.set(setting, 1);
            object.set(setting, before);
            text.append(setting).append(before).append(' ');
        }
        char pattern = object.setPattern('l');
        object.setPattern(pattern);
        int thickness = object.setThickness(0, 1);
        object.setThickness(0, thickness);
        boolean isPause = object.setPause(0, false);
        object.setPause(0, isPause);
        text.append(pattern).append(thickness).append(isPause).append(' ');
        text.append(object.commands()).append(' ').append(object.travel()).append(' ').append(object.planned());
        text.append(' ').append(object.state()).append(object.next()).append(' ').append(object.speed());
        text.append(' ').append(object.temperature()).append(' ').append(object.time());
        text.append(' ').append(object.laidInAll()).append(' ').append(object.laid(0, 0, 0));
        return text.toString();
    }

    static void end() {
        System.out.println(right + " answers as due, " + wrong + " not");
        if (wrong != 0) {
            System.exit(1);
        }
    }
}

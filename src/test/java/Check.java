import java.util.Objects;

/** What the tests share: answers are compared, refusals are looked for, and a wrong one ends the test with 1. */
final class Check {
    interface Call {
        Object answer();
    }

    interface Maker {
        SliceWright made();
    }

    interface Use {
        Object of(SliceWright object);
    }

    private static int wrong = 0;
    private static int right = 0;
    private static String sentence = "";

    private Check() {
    }

    /** The sentence of the document that the answers from here on are of; a wrong one is told with it. */
    static void about(String words) {
        sentence = words;
    }

    static void same(String what, Object got, Object want) {
        if (Objects.equals(got, want)) {
            right++;
        } else {
            wrong++;
            System.out.println(what + " answered " + got + ", due is " + want);
            if (!sentence.isEmpty()) {
                System.out.println("    by: " + sentence);
            }
        }
    }

    /** The exception is of the very class, so that one of the Java machine itself does not pass for it. */
    static void refuses(String what, Class<? extends RuntimeException> want, Call call) {
        same(what, answerOf(call), want);
    }

    /** A call that is refused changes nothing: its object answers all that follows as one does that was not asked. */
    static void refusesUnchanged(Situation situation, String what, Class<? extends RuntimeException> want, Use use) {
        for (Probe probe : Probe.values()) {
            SliceWright object = situation.made();
            refuses(situation + ": " + what, want, () -> use.of(object));
            String due = situation.told(probe);
            String got = probe.tell(object);
            int from = firstDifference(got, due);
            same(situation + ": behind " + what + ", " + probe + " from sign " + from,
                    got.substring(from), due.substring(from));
        }
    }

    private static int firstDifference(String one, String other) {
        int at = 0;
        while (at < one.length() && at < other.length() && one.charAt(at) == other.charAt(at)) {
            at++;
        }
        return at;
    }

    static Object answerOf(Call call) {
        try {
            return call.answer();
        } catch (RuntimeException e) {
            return e.getClass();
        }
    }

    static void end() {
        System.out.println(right + " answers as due, " + wrong + " not");
        if (wrong != 0) {
            System.exit(1);
        }
    }
}

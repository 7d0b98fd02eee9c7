/**
 * The ways to tell what an object holds, what its calls do not show included: each asks for more than 200 and for
 * fewer than 450 answers, so that it fits into the 512 calls of an object that was brought into a situation.
 */
enum Probe {
    FIGURES {
        @Override
        void ask(SliceWright object, StringBuilder text) {
            for (int layer = 0; layer < 12; layer++) {
                int z = layer;
                add(text, () -> object.hanging(z));
                add(text, () -> object.outer(z));
                add(text, () -> object.inner(z));
                add(text, () -> object.outlinesByEdges(z));
                add(text, () -> object.edges(z));
                add(text, () -> object.strokes(z));
            }
            add(text, object::commands);
            add(text, object::travel);
            add(text, object::planned);
            add(text, object::laidInAll);
            add(text, object::emptyShare);
            add(text, object::meanStroke);
            addStates(object, text);
            addCells(text, 0, 1, object::laid);
        }
    },
    SETTINGS {
        @Override
        void ask(SliceWright object, StringBuilder text) {
            for (char letter : "wkdsgr".toCharArray()) {
                for (int value = 0; value <= 6; value++) {
                    int to = value;
                    add(text, () -> object.set(letter, to));
                }
            }
            for (char letter : "lgw".toCharArray()) {
                add(text, () -> object.setPattern(letter));
            }
            for (int layer = 0; layer < 12; layer++) {
                int z = layer;
                for (int value = 1; value <= 3; value++) {
                    int to = value;
                    add(text, () -> object.setThickness(z, to));
                }
                add(text, () -> object.setPause(z, true));
                add(text, () -> object.setPause(z, false));
            }
            add(text, () -> object.setTarget(300));
            add(text, () -> object.setTarget(0));
            addCells(text, 1, 2, object::laid);
        }
    },
    KINDS_LOW {
        @Override
        void ask(SliceWright object, StringBuilder text) {
            addCells(text, 0, 3, object::kindAt);
        }
    },
    KINDS {
        @Override
        void ask(SliceWright object, StringBuilder text) {
            addCells(text, 3, 6, object::kindAt);
        }
    },
    KINDS_HIGH {
        @Override
        void ask(SliceWright object, StringBuilder text) {
            addCells(text, 6, 9, object::kindAt);
        }
    },
    KINDS_TOP {
        @Override
        void ask(SliceWright object, StringBuilder text) {
            addCells(text, 9, 12, object::kindAt);
        }
    },
    COMMANDS {
        @Override
        void ask(SliceWright object, StringBuilder text) {
            for (int number = -1; number < 60; number++) {
                int command = number;
                add(text, () -> object.commandAt(command));
                for (char letter : "xyaz".toCharArray()) {
                    add(text, () -> object.numberAt(command, letter));
                }
            }
        }
    },
    MADE_ANEW {
        @Override
        void ask(SliceWright object, StringBuilder text) {
            add(text, object::cut);
            add(text, object::plan);
            for (int number = 0; number < 60; number++) {
                int command = number;
                add(text, () -> object.commandAt(command));
                add(text, () -> object.numberAt(command, 'x'));
                add(text, () -> object.numberAt(command, 'y'));
                add(text, () -> object.numberAt(command, 'a'));
            }
        }
    },
    TICKS {
        @Override
        void ask(SliceWright object, StringBuilder text) {
            addTicks(object, text);
        }
    },
    MENDED {
        @Override
        void ask(SliceWright object, StringBuilder text) {
            add(text, object::mend);
            add(text, () -> object.setTarget(200));
            addTicks(object, text);
        }
    },
    GONE_ON {
        @Override
        void ask(SliceWright object, StringBuilder text) {
            add(text, object::mend);
            add(text, object::goOn);
            add(text, object::print);
            add(text, () -> object.setTarget(220));
            addTicks(object, text);
        }
    },
    /** A resume that is refused stands behind a cut, so that it can't hide what an earlier refused one would do. */
    RESUMED {
        @Override
        void ask(SliceWright object, StringBuilder text) {
            add(text, object::cut);
            add(text, object::resume);
            add(text, object::cut);
            add(text, object::resume);
            add(text, () -> object.setTarget(210));
            addTicks(object, text);
        }
    };

    private interface OfCell {
        Object answer(int x, int y, int z);
    }

    abstract void ask(SliceWright object, StringBuilder text);

    String tell(SliceWright object) {
        StringBuilder text = new StringBuilder();
        ask(object, text);
        return text.toString();
    }

    private static void add(StringBuilder text, Check.Call call) {
        Object answer = Check.answerOf(call);
        text.append(answer instanceof Class<?> type ? type.getSimpleName() : answer).append(' ');
    }

    private static void addCells(StringBuilder text, int from, int to, OfCell call) {
        for (int cell = 144 * from; cell < 144 * to; cell++) {
            int at = cell;
            add(text, () -> call.answer(at % 12, at / 12 % 12, at / 144));
        }
    }

    private static void addStates(SliceWright object, StringBuilder text) {
        add(text, object::state);
        add(text, object::next);
        add(text, object::speed);
        add(text, object::temperature);
        add(text, object::time);
    }

    /** First in single ticks, then in greater steps to the end of a print. */
    private static void addTicks(SliceWright object, StringBuilder text) {
        for (int tick = 0; tick < 60; tick++) {
            int ticks = tick < 50 ? 1 : 40;
            add(text, () -> object.pass(ticks));
            addStates(object, text);
            if (tick >= 50) {
                add(text, object::laidInAll);
            }
        }
    }
}

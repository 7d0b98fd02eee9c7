/** The term the machine, of promises 21, 22 and 30: speeds at their least and greatest, directions, lengths. */
public final class MotionLimitsTest {
    public static void main(String[] args) {
        lengthByTheGreaterDistance();
        longestMove();
        noLength();
        oneTickEach();
        speedAheadOfTheFirstTick();
        oneMoreInEachTick();
        greatestSpeeds();
        whatIsLeft();
        endsWithOne();
        endsWithTheLesserSpeed();
        keptAlongX();
        keptBackAlongX();
        keptAlongY();
        keptBackAlongY();
        keptOverOneCell();
        goAndDrawByTurns();
        oppositeDirection();
        otherDirection();
        slantingDirection();
        layersEndADirection();
        pausesEndADirection();
        reachEndsADirection();
        nothingBehindTheLast();
        speedWhenItWaits();
        speedWhenItFails();
        speedWhenItIsCut();
        Check.end();
    }

    private static SliceWright rows(int... rows) {
        SliceWright s = new SliceWright();
        s.set('r', 22);
        for (int i = 0; i + 4 < rows.length; i += 5) {
            s.box(rows[i], rows[i + 1], rows[i + 2], rows[i + 3], rows[i + 4], 1, true);
        }
        return s;
    }

    private static void warm(SliceWright s, String plan) {
        s.plan();
        Check.same("the plan", PlanTest.text(s), plan);
        s.setTarget(200);
        s.pass(100);
        s.print();
        Prints.speeds(s, "the first z", 0);
    }

    private static void lengthByTheGreaterDistance() {
        Check.about("the length of a move is 10 times the greater one of the distances in x and y");
        int[] of10 = {1, 2, 3, 2, 1, 0};
        int[] of20 = {1, 2, 3, 4, 4, 3, 2, 0};
        int[][] ways = {{1, 0}, {0, 1}, {1, 1}, {2, 0}, {0, 2}, {2, 1}, {1, 2}, {2, 2}};
        for (int[] way : ways) {
            String place = way[0] + "," + way[1];
            SliceWright s = rows(way[0], way[1], 0, 1, 1);
            warm(s, "z0 g" + place + " d" + place + "=10");
            Prints.speeds(s, "a way to " + place, Math.max(way[0], way[1]) == 1 ? of10 : of20);
            Check.same("then it draws", s.next(), 2);
        }
    }

    private static void longestMove() {
        Check.about("The greatest speed is 8 for 'g' and 4 for 'd'");
        int[] of110 = {1, 2, 3, 4, 5, 6, 7, 8, 8, 8, 8, 8, 8, 7, 6, 6, 5, 4, 3, 2, 0};
        int[][] ways = {{11, 0}, {0, 11}, {11, 11}, {11, 5}, {3, 11}};
        for (int[] way : ways) {
            String place = way[0] + "," + way[1];
            SliceWright s = rows(way[0], way[1], 0, 1, 1);
            warm(s, "z0 g" + place + " d" + place + "=10");
            Prints.speeds(s, "a way to " + place, of110);
        }
    }

    private static void noLength() {
        Check.about("A move of the length 0, and each other command, takes one tick; a speed is 0 behind it.");
        SliceWright s = rows(0, 0, 0, 1, 1);
        warm(s, "z0 d0,0=10");
        Prints.speeds(s, "a stroke of one cell", 0);
        Check.same("done", s.state(), 'd');
        Check.same("two ticks of it", s.time(), 102L);
        Check.same("laid", s.laid(0, 0, 0), 10);
    }

    private static void oneTickEach() {
        Check.about("A move of the length 0, and each other command, takes one tick; a speed is 0 behind it.");
        SliceWright s = rows(1, 0, 0, 1, 1);
        s.set('r', 0);
        s.setPause(0, true);
        warm(s, "z0 p r g1,0 u d1,0=10");
        Prints.speeds(s, "a 'p'", 0);
        Check.same("it pauses", s.goOn(), 4);
        Prints.speeds(s, "an 'r'", 0);
        Prints.speeds(s, "a 'g'", 1, 2, 3, 2, 1, 0);
        Prints.speeds(s, "a 'u'", 0);
        Prints.speeds(s, "a 'd' of one cell", 0);
        Check.same("ticks", s.time(), 111L);
    }

    private static void speedAheadOfTheFirstTick() {
        Check.about("A move goes on by its speed in each tick; it is 0 ahead of the first one.");
        SliceWright s = rows(0, 0, 0, 2, 1);
        warm(s, "z0 d1,0=20");
        Check.same("ahead of the first one", s.speed(), 0);
        s.pass(1);
        Check.same("in the first one", s.speed(), 1);
    }

    private static void oneMoreInEachTick() {
        Check.about("In each tick, the speed becomes the greatest number that is at most 1 more than it was");
        SliceWright s = rows(11, 0, 0, 1, 1);
        warm(s, "z0 g11,0 d11,0=10");
        for (int tick = 1; tick <= 8; tick++) {
            s.pass(1);
            Check.same("in tick " + tick, s.speed(), tick);
        }
    }

    private static void greatestSpeeds() {
        Check.about("at most the greatest speed");
        SliceWright s = rows(0, 0, 0, 12, 1);
        warm(s, "z0 d11,0=120");
        s.pass(4);
        for (int tick = 0; tick < 22; tick++) {
            Check.same("in a 'd'", s.speed(), 4);
            s.pass(1);
        }
        s = rows(11, 0, 0, 1, 1);
        warm(s, "z0 g11,0 d11,0=10");
        s.pass(8);
        for (int tick = 0; tick < 5; tick++) {
            Check.same("in a 'g'", s.speed(), 8);
            s.pass(1);
        }
    }

    private static void whatIsLeft() {
        Check.about("at most what is left of the length");
        SliceWright s = rows(0, 0, 0, 3, 1, 4, 0, 0, 1, 1);
        warm(s, "z0 d2,0=30 g4,0 d4,0=10");
        Prints.speeds(s, "a stroke of 20 that goes on", 1, 2, 3, 4, 4, 4, 2);
        Check.same("the next command", s.next(), 2);
        Prints.speeds(s, "a way of 20 from 2 to one cell", 3, 4, 4, 3, 3, 2, 0);
    }

    private static void endsWithOne() {
        Check.about("and 1 otherwise");
        SliceWright s = rows(0, 0, 0, 5, 1);
        warm(s, "z0 d4,0=50");
        Prints.speeds(s, "a stroke of 40", 1, 2, 3, 4, 4, 4, 4, 4, 4, 4, 3, 2, 0);
        Check.same("the speed of the last tick was 1, and does not go on", s.speed(), 0);
    }

    private static void endsWithTheLesserSpeed() {
        Check.about("the last speed of a move is the lesser one of its greatest speed and that of the next command");
        SliceWright s = rows(4, 0, 0, 2, 1);
        warm(s, "z0 g4,0 d5,0=20");
        Prints.speeds(s, "a 'g' of 40 ahead of a 'd'", 1, 2, 3, 4, 5, 6, 6, 5, 4, 4);
        Check.same("4 is kept", s.speed(), 4);
        Prints.speeds(s, "the 'd' of 10", 4, 3, 2, 0);
        s = rows(0, 0, 0, 2, 1, 5, 0, 0, 1, 1);
        warm(s, "z0 d1,0=20 g5,0 d5,0=10");
        Prints.speeds(s, "a 'd' of 10 ahead of a 'g'", 1, 2, 3, 4);
        Check.same("4 is kept, not 8", s.speed(), 4);
        Prints.speeds(s, "the 'g' of 40 to one cell", 5, 6, 7, 6, 5, 4, 3, 2, 1, 0);
    }

    private static final int[] WAY_OF_40 = {1, 2, 3, 4, 5, 6, 6, 5, 4, 4};
    private static final int[] STROKE_OF_20_FROM_4 = {4, 4, 4, 3, 2, 2, 0};

    private static void keptAlongX() {
        Check.about("the signs of their distances in x are the same, and those in y, and not all 0");
        SliceWright s = rows(4, 0, 0, 3, 1);
        warm(s, "z0 g4,0 d6,0=30");
        Prints.speeds(s, "a way of 40", WAY_OF_40);
        Prints.speeds(s, "a stroke of 20", STROKE_OF_20_FROM_4);
    }

    private static void keptBackAlongX() {
        Check.about("the signs of their distances in x are the same");
        SliceWright s = rows(11, 0, 0, 1, 1, 5, 0, 2, 3, 1);
        warm(s, "z0 g11,0 d11,0=10 z2 g7,0 d5,0=30");
        s.pass(23);
        Check.same("the way back", s.next(), 4);
        Prints.speeds(s, "a way of 40 back", WAY_OF_40);
        Prints.speeds(s, "a stroke of 20 back", STROKE_OF_20_FROM_4);
    }

    private static void keptAlongY() {
        Check.about("the signs .. in y are the same");
        SliceWright s = rows(0, 4, 1, 1, 3);
        warm(s, "z1 g0,4 d0,6=30");
        Prints.speeds(s, "a way of 40 along y", WAY_OF_40);
        Prints.speeds(s, "a stroke of 20 along y", STROKE_OF_20_FROM_4);
    }

    private static void keptBackAlongY() {
        Check.about("the signs .. in y are the same");
        SliceWright s = rows(0, 11, 1, 1, 1, 0, 5, 3, 1, 3);
        warm(s, "z1 g0,11 d0,11=10 z3 g0,7 d0,5=30");
        s.pass(23);
        Check.same("the way back", s.next(), 4);
        Prints.speeds(s, "a way of 40 back along y", WAY_OF_40);
        Prints.speeds(s, "a stroke of 20 back along y", STROKE_OF_20_FROM_4);
    }

    private static void keptOverOneCell() {
        Check.about("the signs of their distances in x are the same, and those in y, and not all 0 (1 and -1)");
        SliceWright s = rows(1, 0, 0, 2, 1);
        warm(s, "z0 g1,0 d2,0=20");
        Prints.speeds(s, "a way of 1", 1, 2, 3, 4);
        Prints.speeds(s, "a stroke of 1", 4, 3, 2, 0);
        s = rows(3, 0, 0, 1, 1, 1, 0, 2, 2, 1);
        warm(s, "z0 g3,0 d3,0=10 z2 g2,0 d1,0=20");
        s.pass(12);
        Check.same("the way back", s.next(), 4);
        Prints.speeds(s, "a way of -1", 1, 2, 3, 4);
        Prints.speeds(s, "a stroke of -1", 4, 3, 2, 0);
        s = rows(0, 3, 1, 1, 1, 0, 1, 3, 1, 2);
        warm(s, "z1 g0,3 d0,3=10 z3 g0,2 d0,1=20");
        s.pass(12);
        Check.same("the way back along y", s.next(), 4);
        Prints.speeds(s, "a way of -1 along y", 1, 2, 3, 4);
        Prints.speeds(s, "a stroke of -1 along y", 4, 3, 2, 0);
    }

    private static void goAndDrawByTurns() {
        Check.about("The speed is kept if the next command is a move in the same direction, but at most the "
                + "greatest one there");
        SliceWright s = rows(1, 0, 0, 2, 1, 4, 0, 0, 2, 1);
        warm(s, "z0 g1,0 d2,0=20 g4,0 d5,0=20");
        Prints.speeds(s, "a 'g' of 10", 1, 2, 3, 4);
        Prints.speeds(s, "a 'd' of 10", 4, 4, 2);
        Prints.speeds(s, "a 'g' of 20", 3, 4, 5, 4, 4);
        Prints.speeds(s, "a 'd' of 10 that ends", 4, 3, 2, 0);
        s = rows(4, 0, 0, 2, 1, 9, 0, 0, 2, 1);
        warm(s, "z0 g4,0 d5,0=20 g9,0 d10,0=20");
        Prints.speeds(s, "a 'g' of 40", WAY_OF_40);
        Prints.speeds(s, "a 'd' of 10", 4, 4, 2);
        Prints.speeds(s, "a 'g' of 40 from 2", 3, 4, 5, 6, 7, 6, 5, 4);
        Prints.speeds(s, "the last 'd' of 10", 4, 3, 2, 0);
    }

    private static void oppositeDirection() {
        Check.about("in the same direction, which means that the signs of their distances in x are the same");
        SliceWright s = rows(5, 0, 0, 1, 1, 2, 0, 2, 5, 1);
        warm(s, "z0 g5,0 d5,0=10 z2 g6,0 d2,0=50");
        s.pass(16);
        Check.same("the way to the last cell", s.next(), 4);
        Prints.speeds(s, "a way of 10 against the stroke", 1, 2, 3, 2, 1, 0);
        s.pass(1);
        Check.same("the stroke begins with 1", s.speed(), 1);
        s = rows(0, 5, 1, 1, 1, 0, 2, 3, 1, 5);
        warm(s, "z1 g0,5 d0,5=10 z3 g0,6 d0,2=50");
        s.pass(16);
        Check.same("the way to the last cell, along y", s.next(), 4);
        Prints.speeds(s, "a way of 10 against the stroke, along y", 1, 2, 3, 2, 1, 0);
        s.pass(1);
        Check.same("the stroke along y begins with 1", s.speed(), 1);
    }

    private static void otherDirection() {
        Check.about("the signs of their distances in x are the same, and those in y");
        SliceWright s = rows(3, 0, 1, 1, 3);
        warm(s, "z1 g3,0 d3,2=30");
        Prints.speeds(s, "a way along x ahead of a stroke along y", 1, 2, 3, 4, 5, 5, 4, 3, 2, 0);
        Prints.speeds(s, "the stroke along y", 1, 2, 3, 4, 4, 3, 2, 0);
        s = rows(0, 3, 0, 3, 1);
        warm(s, "z0 g0,3 d2,3=30");
        Prints.speeds(s, "a way along y ahead of a stroke along x", 1, 2, 3, 4, 5, 5, 4, 3, 2, 0);
        Prints.speeds(s, "the stroke along x", 1, 2, 3, 4, 4, 3, 2, 0);
    }

    private static void slantingDirection() {
        Check.about("the signs of their distances in x are the same, and those in y");
        SliceWright s = rows(3, 1, 0, 3, 1);
        warm(s, "z0 g3,1 d5,1=30");
        Prints.speeds(s, "a slanting way ahead of a stroke along x", 1, 2, 3, 4, 5, 5, 4, 3, 2, 0);
        s = rows(1, 3, 1, 1, 3);
        warm(s, "z1 g1,3 d1,5=30");
        Prints.speeds(s, "a slanting way ahead of a stroke along y", 1, 2, 3, 4, 5, 5, 4, 3, 2, 0);
        s = rows(0, 0, 0, 3, 1, 3, 1, 0, 3, 1);
        warm(s, "z0 d2,0=30 g3,1 d5,1=30");
        Prints.speeds(s, "a stroke along x ahead of a slanting way", 1, 2, 3, 4, 4, 3, 2, 0);
    }

    private static void layersEndADirection() {
        Check.about("if that is a move in the same direction .. and 1 otherwise ('z' is no move)");
        SliceWright s = rows(0, 0, 0, 3, 1, 3, 0, 2, 3, 1);
        warm(s, "z0 d2,0=30 z2 g3,0 d5,0=30");
        Prints.speeds(s, "a stroke of 20 ahead of a 'z'", 1, 2, 3, 4, 4, 3, 2, 0);
        Prints.speeds(s, "the 'z'", 0);
        Prints.speeds(s, "a way of 10 from 0", 1, 2, 3, 4);
        Prints.speeds(s, "a stroke of 20", STROKE_OF_20_FROM_4);
        s = rows(0, 0, 0, 3, 1, 2, 0, 2, 3, 1);
        warm(s, "z0 d2,0=30 z2 d4,0=30");
        Prints.speeds(s, "a stroke of 20 ahead of a 'z'", 1, 2, 3, 4, 4, 3, 2, 0);
        Prints.speeds(s, "the 'z'", 0);
        Prints.speeds(s, "a stroke of 20 from 0", 1, 2, 3, 4, 4, 3, 2, 0);
    }

    private static void pausesEndADirection() {
        Check.about("A move of the length 0, and each other command, takes one tick; a speed is 0 behind it.");
        SliceWright s = rows(0, 0, 0, 3, 1, 2, 0, 2, 3, 1);
        s.setPause(2, true);
        warm(s, "z0 d2,0=30 z2 p d4,0=30");
        Prints.speeds(s, "a stroke of 20", 1, 2, 3, 4, 4, 3, 2, 0);
        Prints.speeds(s, "the 'z'", 0);
        Prints.speeds(s, "the 'p'", 0);
        s.pass(5);
        Check.same("the speed in a pause", s.speed(), 0);
        s.goOn();
        Check.same("the speed behind it", s.speed(), 0);
        Prints.speeds(s, "a stroke of 20 from 0", 1, 2, 3, 4, 4, 3, 2, 0);
    }

    private static void reachEndsADirection() {
        Check.about("if that is a move in the same direction .. and 1 otherwise ('r' and 'u' are no moves)");
        SliceWright s = rows(0, 0, 0, 3, 1, 4, 0, 0, 3, 1);
        s.set('r', 1);
        warm(s, "z0 d2,0=30 r g4,0 u d6,0=30");
        Prints.speeds(s, "a stroke of 20 ahead of an 'r'", 1, 2, 3, 4, 4, 3, 2, 0);
        Prints.speeds(s, "the 'r'", 0);
        Prints.speeds(s, "a way of 20 ahead of a 'u'", 1, 2, 3, 4, 4, 3, 2, 0);
        Prints.speeds(s, "the 'u'", 0);
        Prints.speeds(s, "a stroke of 20 from 0", 1, 2, 3, 4, 4, 3, 2, 0);
    }

    /** More commands were planned before, so that there was a move where there is none any more. */
    private static void nothingBehindTheLast() {
        Check.about("that of the next command if that is a move in the same direction .. and 1 otherwise "
                + "(there is no next one)");
        SliceWright s = rows(0, 0, 0, 12, 12);
        s.plan();
        Check.same("a move behind what will be the last one", s.commandAt(6), 'g');
        s.box(0, 0, 0, 12, 12, 1, false);
        s.box(3, 0, 0, 1, 1, 1, true);
        s.box(1, 0, 2, 2, 1, 1, true);
        warm(s, "z0 g3,0 d3,0=10 z2 g2,0 d1,0=20");
        s.pass(12);
        Prints.speeds(s, "a way of -1", 1, 2, 3, 4);
        Prints.speeds(s, "the last stroke, of -1", 4, 3, 2, 0);
        Check.same("done", s.state(), 'd');
    }

    private static void speedWhenItWaits() {
        Check.about("otherwise the machine waits in this tick, and the speed is 0");
        SliceWright s = rows(3, 0, 0, 3, 1);
        s.plan();
        s.print();
        s.pass(1);
        Prints.speeds(s, "a way of 30 that goes on", 1, 2, 3, 4, 5, 6, 5, 4);
        Check.same("it is too cold for the stroke", s.pass(1), 0);
        Check.same("it waits", s.state(), 'w');
        Check.same("the speed", s.speed(), 0);
        s.setTarget(200);
        s.pass(56);
        Check.same("it waits still", s.state(), 'w');
        s.pass(1);
        Check.same("it is warm", s.temperature(), 191);
        Check.same("the speed from 0", s.speed(), 1);
        Prints.speeds(s, "the rest of the stroke", 2, 3, 4, 4, 3, 2, 0);
    }

    private static void speedWhenItFails() {
        Check.about("the speed 0 at once, and nothing is done until it is mended; a move goes on from the "
                + "speed 0 then");
        SliceWright s = rows(11, 0, 0, 1, 1);
        warm(s, "z0 g11,0 d11,0=10");
        s.pass(10);
        Check.same("the speed", s.speed(), 8);
        s.fail();
        Check.same("the speed when it fails", s.speed(), 0);
        s.pass(3);
        Check.same("the speed behind it", s.speed(), 0);
        s.mend();
        Check.same("the speed when it is mended", s.speed(), 0);
        Prints.speeds(s, "58 are left", 1, 2, 3, 4, 5, 6, 7, 7, 6, 5, 4, 3, 2, 2, 0);
    }

    private static void speedWhenItIsCut() {
        Check.about("When the power is cut, .. the speed 0");
        SliceWright s = rows(11, 0, 0, 1, 1);
        warm(s, "z0 g11,0 d11,0=10");
        s.pass(10);
        s.cut();
        Check.same("the speed when it is cut", s.speed(), 0);
        s.pass(3);
        Check.same("the speed behind it", s.speed(), 0);
        s.resume();
        Check.same("the speed when it goes on", s.speed(), 0);
        Prints.speeds(s, "the 'z' again", 0);
        Prints.speeds(s, "the whole way again", 1, 2, 3, 4, 5, 6, 7, 8, 8, 8, 8, 8, 8, 7, 6, 6, 5, 4, 3, 2, 0);
    }
}

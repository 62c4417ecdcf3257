import java.util.Arrays;

/** The sentences of "Terms" that name a boundary, one test for each: the last value allowed, and the first beyond. */
public final class TermsEdgesTest extends Ponds {
    private static final int[] BYTES = {-128, -127, -65, -64, -2, -1, 0, 1, 2, 63, 64, 126, 127};

    public static void main(String[] args) {
        TermsEdgesTest test = new TermsEdgesTest();
        test.check.each(
                test::cellsGoRound, test::farCellsGoRound, test::stepsGoRound, test::looksGoRound, test::giftsGoRound,
                test::breedingGoesRound, test::grain, test::mark, test::oneAnimal, test::sun, test::headings,
                test::stream, test::streamNumbers, test::numbers, test::leastNumber, test::leastNumberOfAChild,
                test::registers, test::memoryPlaces, test::codeLength, test::childCodeLength, test::parents,
                test::cutToAByte);
        test.check.end();
    }

    private void cellsGoRound() {
        check.part("Terms: x and y go round");
        CreaturePond pond = new CreaturePond(4, 5);
        pond.grain(0, 0, 1);
        pond.grain(3, 0, 2);
        pond.grain(0, 4, 3);
        pond.grain(3, 4, 4);
        check.due("the last column", pond.cell(3, 0, 0), 2);
        check.due("the first column behind it", pond.cell(4, 0, 0), 1);
        check.due("the first column", pond.cell(0, 0, 0), 1);
        check.due("the last column before it", pond.cell(-1, 0, 0), 2);
        check.due("the last row", pond.cell(0, 4, 0), 3);
        check.due("the first row behind it", pond.cell(0, 5, 0), 1);
        check.due("the last row before the first", pond.cell(0, -1, 0), 3);
        check.due("both behind", pond.cell(7, 9, 0), 4);
        check.due("both before", pond.cell(-4, -5, 0), 1);
        check.due("both before that", pond.cell(-5, -6, 0), 4);
        pond.grain(4, 5, 11);
        check.due("grain behind the last", pond.cell(0, 0, 0), 11);
        pond.grain(-1, -1, 12);
        check.due("grain before the first", pond.cell(3, 4, 0), 12);
        int behind = pond.animal(4, 5, 0, 9);
        check.due("animal behind the last", pond.field(behind, X) + " " + pond.field(behind, Y), "0 0");
        int before = pond.animal(-1, -1, 0, 9);
        check.due("animal before the first", pond.field(before, X) + " " + pond.field(before, Y), "3 4");
        int last = pond.animal(3, 0, 0, 9);
        check.due("animal at the last", pond.field(last, X) + " " + pond.field(last, Y), "3 0");
        check.due("animal seen from before", pond.cell(-1, -5, 2), last);
    }

    private void farCellsGoRound() {
        check.part("Terms: x and y go round, far away");
        int[] far = {Integer.MIN_VALUE, Integer.MIN_VALUE + 1, -2147483640, 2147483640, Integer.MAX_VALUE - 1,
            Integer.MAX_VALUE};
        for (int side = 3; side <= 10; side++) {
            for (int x : far) {
                CreaturePond pond = new CreaturePond(side, 13 - side);
                int column = (int) (((long) x + 10L * Integer.MAX_VALUE * side) % side);
                int row = (int) (((long) x + 10L * Integer.MAX_VALUE * (13 - side)) % (13 - side));
                pond.grain(x, x, 9);
                check.due("grain at " + x + " of " + side, pond.cell(column, row, 0), 9);
                pond.animal(x, x, 0, 9);
                check.due("animal at " + x + " of " + side, pond.cell(column, row, 2), 0);
                check.due("cell at " + x + " of " + side, pond.cell(x, x, 0) + pond.cell(x, x, 2), 9);
            }
        }
    }

    /** Where an animal of a pond of 4 by 5 cells is after a step. */
    private static String step(int x, int y, int heading) {
        CreaturePond pond = new CreaturePond(4, 5);
        put(pond, x, y, heading, 9, STEP);
        pond.tick(1);
        int toX = pond.field(0, X);
        int toY = pond.field(0, Y);
        boolean moved = pond.cell(toX, toY, 2) == 0 && pond.cell(x, y, 2) == -1;
        return toX + " " + toY + (moved ? "" : " but not in its cell");
    }

    private void stepsGoRound() {
        check.part("Terms: x and y go round, in a step");
        check.due("up to the first row", step(2, 1, 0), "2 0");
        check.due("up from the first row", step(2, 0, 0), "2 4");
        check.due("right to the last column", step(2, 2, 1), "3 2");
        check.due("right from the last column", step(3, 2, 1), "0 2");
        check.due("down to the last row", step(2, 3, 2), "2 4");
        check.due("down from the last row", step(2, 4, 2), "2 0");
        check.due("left to the first column", step(1, 2, 3), "0 2");
        check.due("left from the first column", step(0, 2, 3), "3 2");
    }

    private void looksGoRound() {
        check.part("Terms: x and y go round, in a look ahead");
        int[][] edges = {{2, 0, 0, 2, 4}, {3, 2, 1, 0, 2}, {2, 4, 2, 2, 0}, {0, 2, 3, 3, 2}};
        for (int[] edge : edges) {
            CreaturePond pond = new CreaturePond(4, 5);
            pond.grain(edge[3], edge[4], 40);
            put(pond, edge[3], edge[4], 3, 50, 1, 0, 77, MARK, 0);
            int one = put(pond, edge[0], edge[1], edge[2], 50, 14, 0, 0, 14, 1, 1, 14, 2, 2, 14, 3, 3, ASK);
            pond.tick(1);
            check.due("heading " + edge[2], pond.field(one, 0) + " " + pond.field(one, 1) + " " + pond.field(one, 2)
                    + " " + pond.field(one, 3), "20 1 77 3");
        }
    }

    private void giftsGoRound() {
        check.part("Terms: x and y go round, in a gift");
        int[][] edges = {{2, 0, 0, 2, 4}, {3, 2, 1, 0, 2}, {2, 4, 2, 2, 0}, {0, 2, 3, 3, 2}};
        for (int[] edge : edges) {
            CreaturePond pond = new CreaturePond(4, 5);
            put(pond, edge[0], edge[1], edge[2], 50, GIVE, 7);
            put(pond, edge[3], edge[4], 0, 50);
            pond.tick(1);
            check.due("heading " + edge[2], pond.field(0, ENERGY) + " " + pond.field(1, ENERGY), "42 56");
        }
    }

    private void breedingGoesRound() {
        check.part("Terms: x and y go round, in breeding");
        int[][] edges = {{0, 0, 0, 0, 4, 3, 0}, {3, 0, 1, 0, 0, 3, 4}, {0, 4, 2, 0, 0, 0, 3}, {0, 0, 3, 3, 0, 0, 4}};
        for (int[] edge : edges) {
            CreaturePond pond = new CreaturePond(4, 5);
            put(pond, edge[0], edge[1], edge[2], 100, ASK);
            put(pond, edge[3], edge[4], edge[2] ^ 2, 100, ASK);
            if (edge[2] == 0) {
                // So that the child is born round the left edge.
                pond.animal(1, 0, 0, 9);
                pond.animal(0, 1, 0, 9);
            }
            pond.tick(1);
            check.due("a child by heading " + edge[2], pond.total(BIRTHS), 1);
            int child = pond.total(4) - 1;
            check.due("where, by heading " + edge[2], pond.field(child, X) + " " + pond.field(child, Y),
                    edge[5] + " " + edge[6]);
        }
    }

    private void grain() {
        check.part("Terms: GRAIN, 0 .. 250");
        CreaturePond pond = new CreaturePond(3, 3);
        check.due("250", pond.grain(0, 0, 250) + " " + pond.cell(0, 0, 0), "true 250");
        check.due("251", pond.grain(0, 0, 251) + " " + pond.cell(0, 0, 0), "false 250");
        check.due("0", pond.grain(0, 0, 0) + " " + pond.cell(0, 0, 0), "true 0");
        check.due("-1", pond.grain(0, 0, -1) + " " + pond.cell(0, 0, 0), "false 0");
        pond.grain(0, 0, 249);
        pond.set(50, 0);
        pond.store(1000);
        pond.tick(1);
        check.due("the sun makes 250 of 249", pond.cell(0, 0, 0), 250);
        pond.tick(1);
        check.due("the sun leaves 250", pond.cell(0, 0, 0), 250);
        put(pond, 1, 1, 0, 40, EAT);
        pond.grain(1, 1, 0);
        pond.set(0, 0);
        pond.tick(1);
        check.due("eating leaves 0", pond.cell(1, 1, 0) + " " + pond.field(0, ENERGY), "0 39");
    }

    private void mark() {
        check.part("Terms: a MARK, -128 .. 127");
        for (int value : BYTES) {
            check.due("mark " + value, after(1, 3, value, MARK, 3).cell(1, 1, 1), value);
        }
        check.due("127 + 1", after(1, 3, 127, 1, 4, 1, 3, 3, 4, MARK, 3).cell(1, 1, 1), -128);
        check.due("-128 - 1", after(1, 3, -128, 1, 4, 1, 4, 3, 4, MARK, 3).cell(1, 1, 1), 127);
    }

    private void oneAnimal() {
        check.part("Terms: at most one ANIMAL");
        CreaturePond pond = new CreaturePond(4, 3);
        check.due("the first", put(pond, 1, 1, 1, 50, STEP), 0);
        check.throwing("a second one", STATE, () -> pond.animal(1, 1, 0, 9));
        check.throwing("a second one, round", STATE, () -> pond.animal(-3, 4, 0, 9));
        check.due("one in the next cell", pond.animal(2, 1, 0, 50), 1);
        pond.tick(1);
        check.due("no step into a full cell", pond.cell(1, 1, 2) + " " + pond.cell(2, 1, 2), "0 1");
        CreaturePond one = new CreaturePond(4, 3);
        put(one, 1, 1, 1, 50, STEP);
        one.animal(3, 1, 0, 50);
        one.tick(1);
        check.due("a step into a free cell", one.cell(2, 1, 2) + " " + one.cell(1, 1, 2), "0 -1");
        one.tick(1);
        check.due("none into the next", one.cell(2, 1, 2) + " " + one.cell(3, 1, 2), "0 1");
        CreaturePond crossing = new CreaturePond(4, 3);
        put(crossing, 0, 0, 1, 50, STEP);
        put(crossing, 2, 0, 3, 50, STEP);
        crossing.tick(1);
        check.due("two into one cell", crossing.cell(1, 0, 2) + " " + crossing.cell(2, 0, 2), "0 1");
    }

    private void sun() {
        check.part("Terms: a SUN, 0 .. 50");
        check.due("SUN 50", grainBySun(50), "true 50");
        check.due("SUN 51", grainBySun(51), "false 7");
        check.due("SUN 0", grainBySun(0), "true 0");
        check.due("SUN -1", grainBySun(-1), "false 7");
        check.due("SUN 1", grainBySun(1), "true 1");
        check.due("SUN 49", grainBySun(49), "true 49");
    }

    /** What a set answers when the SUN was 7, and how much grain there is after a tick. */
    private static String grainBySun(int sun) {
        CreaturePond pond = new CreaturePond(3, 3);
        pond.store(1000);
        pond.set(7, 0);
        boolean answer = pond.set(sun, 0);
        pond.tick(1);
        return answer + " " + pond.total(1);
    }

    private void headings() {
        check.part("Terms: 0 up (y - 1), 1 right (x + 1), 2 down, 3 left");
        check.due("0", step(1, 2, 0), "1 1");
        check.due("1", step(1, 2, 1), "2 2");
        check.due("2", step(1, 2, 2), "1 3");
        check.due("3", step(1, 2, 3), "0 2");
        CreaturePond pond = new CreaturePond(3, 3);
        check.throwing("4", ARGUMENT, () -> pond.animal(0, 0, 4, 9));
        check.throwing("-1", ARGUMENT, () -> pond.animal(0, 0, -1, 9));
    }

    private static final int[] STREAMS = {0, 1, -1, 65535, 65536, 65537, Integer.MAX_VALUE, Integer.MIN_VALUE,
        Integer.MIN_VALUE + 1, -65536, -65537, 0x7FFF0000, 0x80010000, 31, 32, 63, 64, 99, 4711, -4711};

    private void stream() {
        check.part("Terms: x becomes x * 134775813 + 1");
        for (int stream : STREAMS) {
            CreaturePond pond = pair(stream, 100, 100);
            check.due("the STREAM is an int " + stream, pond.total(STREAM), stream);
            pond.tick(1);
            int taken = streamNumber(stream, 2) % 4 == 0 ? 5 : 3;
            check.due("after " + taken + " numbers of " + stream, pond.total(STREAM), streamAfter(stream, taken));
        }
        // By hand: 0, 1, 134775814, -596792289, 870078620, 1172187917, as 2056 (of 134775814) % 4 is 0.
        check.due("five times from 0", afterBirth(0).total(STREAM), 1172187917);
    }

    private static CreaturePond afterBirth(int stream) {
        CreaturePond pond = pair(stream, 100, 100);
        pond.tick(1);
        return pond;
    }

    private void streamNumbers() {
        check.part("Terms: its NEXT number is x >>> 16");
        int[] first = new int[20];
        int[] second = new int[20];
        for (int i = 0; i < 20; i++) {
            first[i] = i == 0 ? ASK : i;
            second[i] = i == 0 ? ASK : 100 + i;
        }
        for (int stream : STREAMS) {
            CreaturePond pond = new CreaturePond(4, 5);
            pond.set(0, stream);
            put(pond, 1, 1, 1, 100, first);
            put(pond, 2, 1, 3, 100, second);
            pond.tick(1);
            check.due("child by " + stream, Told.code(pond, 2), childOf(first, second, stream));
        }
    }

    /** The code of a child by the document's words: all parts of codes of the same length. */
    private static String childOf(int[] first, int[] second, int stream) {
        int from = streamNumber(stream, 0) % (first.length + 1);
        int to = from + streamNumber(stream, 1) % 8;
        int[] code = first.clone();
        for (int i = from; i < to && i < second.length; i++) {
            code[i] = second[i];
        }
        if (streamNumber(stream, 2) % 4 == 0) {
            code[streamNumber(stream, 3) % code.length] = (byte) streamNumber(stream, 4);
        }
        return Arrays.toString(code).replaceAll("[\\[\\],]", "");
    }

    private void numbers() {
        check.part("Terms: the numbers 0 .. 15");
        CreaturePond pond = new CreaturePond(5, 5);
        for (int i = 0; i < 16; i++) {
            check.due("animal", pond.animal(i % 5, i / 5, 0, 9), i);
        }
        check.throwing("one more", STATE, () -> pond.animal(4, 4, 0, 9));
        check.due("15", pond.field(15, ENERGY), 9);
        check.due("16", pond.field(16, ENERGY), CreaturePond.NONE);
        check.due("0", pond.field(0, ENERGY), 9);
        check.due("-1", pond.field(-1, ENERGY), CreaturePond.NONE);
        check.due("code for 15", pond.code(15, 1, 9), 1);
        check.due("15 in its cell", pond.cell(0, 3, 2), 15);
    }

    private void leastNumber() {
        check.part("Terms: a new one gets the least that is free");
        for (int[] freed : new int[][] {{0, 15}, {3, 7}, {14, 15}, {0, 1}, {7, 8}}) {
            CreaturePond pond = new CreaturePond(5, 5);
            for (int i = 0; i < 16; i++) {
                pond.animal(i % 5, i / 5, 0, i == freed[0] || i == freed[1] ? 1 : 9);
            }
            check.due("two die", pond.tick(1), 14);
            check.due("the lesser", pond.animal(4, 4, 0, 9), freed[0]);
            check.due("the other", pond.animal(3, 4, 0, 9), freed[1]);
            check.throwing("no more", STATE, () -> pond.animal(2, 4, 0, 9));
        }
    }

    private void leastNumberOfAChild() {
        check.part("Terms: a new one gets the least that is free, a child");
        for (int[] freed : new int[][] {{0, 15}, {3, 7}, {14, 15}}) {
            CreaturePond pond = new CreaturePond(10, 10);
            for (int i = 0; i < 16; i++) {
                pond.animal(i % 8, i / 8 * 3, 0, i == freed[0] || i == freed[1] ? 1 : i == 9 || i == 10 ? 100 : 9);
            }
            pond.tick(1);
            // 9 and 10 turn to each other, then ask; above them there is room.
            pond.code(9, 3, 0x100115);
            pond.code(10, 3, 0x10FF15);
            check.due("a child", pond.tick(2), 15);
            check.due("its number", pond.cell(1, 2, 2), freed[0]);
            check.due("its parent", pond.field(freed[0], 15), 9);
        }
    }

    private void registers() {
        check.part("Terms: eight REGISTERS (bytes, -128 .. 127)");
        for (int number = 0; number < 8; number++) {
            for (int value : BYTES) {
                register("register " + number, number, value, 1, number, value, ASK);
            }
        }
        CreaturePond pond = after(1, 7, 5, 1, 0, 6, ASK);
        check.due("7", pond.field(0, 7), 5);
        check.due("8 is no register", pond.field(0, 8), 1);
    }

    private void memoryPlaces() {
        check.part("Terms: sixteen MEMORY places (bytes, -128 .. 127)");
        for (int number = 0; number < 16; number++) {
            CreaturePond pond = after(1, 0, number, 1, 1, number - 128, 10, 1, 0, ASK);
            for (int i = 0; i < 16; i++) {
                check.due("memory " + i, pond.inner(0, false, i), (byte) (i == number ? number - 128 : 0));
            }
        }
        CreaturePond pond = after(1, 0, 15, 1, 1, 127, 10, 1, 0, ASK);
        check.due("15", pond.inner(0, false, 15), (byte) 127);
        check.throwing("16", INDEX, () -> pond.inner(0, false, 16));
    }

    private void codeLength() {
        check.part("Terms: a CODE of 0 .. 20 bytes");
        CreaturePond pond = new CreaturePond(3, 3);
        pond.animal(0, 0, 0, 50);
        check.due("0 at first", pond.field(0, LENGTH), 0);
        pond.tick(3);
        check.due("0 is no fault", pond.field(0, PLACE) + " " + pond.field(0, ENERGY), "0 47");
        for (int i = 1; i <= 20; i++) {
            check.due("byte by byte", pond.code(0, 1, i), i);
        }
        check.throwing("21", STATE, () -> pond.code(0, 1, 21));
        check.due("still 20", pond.field(0, LENGTH) + " " + pond.inner(0, true, 19), "20 20");
        for (int n = 1; n <= 8; n++) {
            int bytes = n;
            CreaturePond enough = withCode(20 - n);
            check.due(n + " more to 20", enough.code(0, n, 7), 20);
            CreaturePond more = withCode(21 - n);
            check.throwing(n + " more to 21", STATE, () -> more.code(0, bytes, 7));
            check.due("as it was", more.field(0, LENGTH), 21 - n);
        }
    }

    /** A pond in which one animal has a code of this length. */
    private static CreaturePond withCode(int length) {
        CreaturePond pond = new CreaturePond(3, 3);
        put(pond, 0, 0, 0, 50, new int[length]);
        return pond;
    }

    private void childCodeLength() {
        check.part("Terms: a CODE of 0 .. 20 bytes, of a child");
        for (int length : new int[] {1, 13, 20}) {
            for (int cut = 0; cut < 8; cut++) {
                for (int from : new int[] {0, length - 1, length}) {
                    CreaturePond pond = pair(streamFor(1, length, from, from + cut, false), 100, 100);
                    for (int i = 1; i < length; i++) {
                        pond.code(0, 1, 5);
                    }
                    for (int i = 1; i < 20; i++) {
                        pond.code(1, 1, 6);
                    }
                    pond.tick(1);
                    check.due("of " + length + " and 20, from " + from + ", " + cut, pond.field(2, LENGTH),
                            Math.max(length, cut == 0 ? 0 : Math.min(from + cut, 20)));
                }
            }
        }
    }

    private void parents() {
        check.part("Terms: two PARENTS (numbers, or none)");
        CreaturePond pond = new CreaturePond(6, 6);
        for (int i = 0; i < 14; i++) {
            pond.animal(i % 6, i / 6, 0, i == 0 ? 1 : 9);
        }
        put(pond, 0, 4, 1, 200, ASK);
        put(pond, 1, 4, 3, 200, ASK);
        check.due("none", pond.field(14, 15) + " " + pond.field(14, 16), "-1 -1");
        check.due("no birth among 16", pond.tick(1), 15);
        check.due("a birth", pond.tick(1), 16);
        check.due("the greatest numbers", pond.field(0, 15) + " " + pond.field(0, 16), "14 15");
        CreaturePond first = afterBirth(0);
        check.due("the least numbers", first.field(2, 15) + " " + first.field(2, 16), "0 1");
    }

    private void cutToAByte() {
        check.part("Terms: What is reckoned for a byte is cut to its lowest eight bits");
        for (int own : BYTES) {
            for (int other : BYTES) {
                String of = own + " and " + other;
                register("3 of " + of, 0, (byte) (own + other), 1, 0, own, 1, 1, other, 3, 0, 1, ASK);
                register("4 of " + of, 0, (byte) (own - other), 1, 0, own, 1, 1, other, 4, 0, 1, ASK);
                register("5 of " + of, 0, (byte) (own & other), 1, 0, own, 1, 1, other, 5, 0, 1, ASK);
                register("6 of " + of, 0, (byte) (own ^ other), 1, 0, own, 1, 1, other, 6, 0, 1, ASK);
            }
            register("7 of " + own, 0, (byte) (own * 2), 1, 0, own, 7, 0, ASK);
            register("8 of " + own, 0, (own < 0 ? own + 256 : own) / 2, 1, 0, own, 8, 0, ASK);
        }
        register("126 + 1", 0, 127, 1, 0, 126, 1, 1, 1, 3, 0, 1, ASK);
        register("127 + 1", 0, -128, 1, 0, 127, 1, 1, 1, 3, 0, 1, ASK);
        register("-127 - 1", 0, -128, 1, 0, -127, 1, 1, 1, 4, 0, 1, ASK);
        register("-128 - 1", 0, 127, 1, 0, -128, 1, 1, 1, 4, 0, 1, ASK);
        register("twice 63", 0, 126, 1, 0, 63, 7, 0, ASK);
        register("twice 64", 0, -128, 1, 0, 64, 7, 0, ASK);
        register("twice -64", 0, -128, 1, 0, -64, 7, 0, ASK);
        register("twice -65", 0, 126, 1, 0, -65, 7, 0, ASK);
        for (int stream = 0; stream < 4000000; stream += 65521) {
            int changed = streamNumber(stream, 4);
            if (streamNumber(stream, 2) % 4 == 0) {
                check.due("a changed byte is cut", afterBirth(stream).inner(2, true, 0), (byte) changed);
            }
        }
    }
}

import java.util.Arrays;

/** The sentences on OPERATIONS and ACTS that name a boundary, one test for each: the last value, the first beyond. */
public final class OperationEdgesTest extends Ponds {
    private static final int[] OPERANDS = {0, 2, 2, 2, 2, 2, 2, 1, 1, 2, 2, 1, 2, 2, 2, 2, 1, 0, 0, 1, 1, 0};

    public static void main(String[] args) {
        OperationEdgesTest test = new OperationEdgesTest();
        test.check.each(
                test::operationNumbers, test::operandsBehindTheEnd, test::shortestCodes, test::placeModuloTheLength,
                test::placeWithoutJump, test::registersByThreeBits, test::eachRegister, test::memoryByFourBits,
                test::jumpsModuloTheLength, test::jumpIfZero, test::jumpIfBelow, test::halves, test::aheadByTwoBits,
                test::grainAhead, test::animalAhead, test::markAhead, test::headingAhead, test::itselfByTwoBits,
                test::ownEnergy, test::ownAge, test::ownHeading, test::ownGrain, test::turning, test::stepPays,
                test::stepIfThereIsNoAnimal, test::eating, test::givingBySixBits, test::givingWhatItHas,
                test::givingToNone, test::marking, test::asking, test::paying, test::eachDoesThatAlone);
        test.check.end();
    }

    /** All that is told of a pond but the codes, which differ in what is compared. */
    private static String withoutCode(CreaturePond pond) {
        return Told.all(pond).replaceAll("\ncode of .*", "");
    }

    /** A pond in which 1, in the middle, has lived for one tick, heading up to 0, which stands there on a mark. */
    private static CreaturePond beside(int... code) {
        CreaturePond pond = new CreaturePond(3, 3);
        pond.grain(1, 0, 91);
        pond.grain(1, 1, 53);
        put(pond, 1, 0, 2, 300, 1, 0, -9, MARK, 0);
        put(pond, 1, 1, 0, 100, code);
        pond.tick(1);
        return pond;
    }

    private void operationNumbers() {
        check.part("Operations: operation (b & 255) % 22");
        for (int b = 22; b < 256; b++) {
            check.dueText("byte " + b, withoutCode(beside(b, 2, 6, ASK, 0, 0, ASK, ASK, ASK)),
                    withoutCode(beside(b % 22, 2, 6, ASK, 0, 0, ASK, ASK, ASK)));
        }
        check.due("21 asks", after(21).field(0, ASKED), 1);
        check.due("22 does nothing", after(22).field(0, ASKED), 0);
        check.due("43 asks", after(43).field(0, ASKED), 1);
        check.due("44 does nothing", after(44).field(0, ASKED), 0);
        check.due("109 asks", after(109).field(0, ASKED), 1);
        check.due("127 is 17", after(127).field(0, Y), 0);
        check.due("-128 is 128, 18", beside(-128).field(1, ENERGY), 99 + 30);
        check.due("-15 is 241, 21", after(-15).field(0, ASKED), 1);
        check.due("-14 is 242, 0", after(-14).field(0, PLACE) + " " + after(-14).field(0, ASKED), "0 0");
        check.due("-1 is 255, 13", after(-1, 0, 0, ASK, 0).field(0, PLACE), 4);
    }

    private void operandsBehindTheEnd() {
        check.part("Operations: the code goes on at its beginning behind its end");
        // 22, 44 and 66 do nothing; the operation that counts is the eighth.
        CreaturePond before = after(22, 44, 66, 22, 22, 22, 22, 1, 3, 5, 66);
        check.due("both operands before the end", before.field(0, 3) + " " + before.field(0, PLACE), "5 10");
        CreaturePond at = after(22, 44, 66, 22, 22, 22, 22, 1, 3, 5);
        check.due("both up to the end", at.field(0, 3) + " " + at.field(0, PLACE), "5 0");
        CreaturePond one = after(22, 44, 66, 22, 22, 22, 22, 1, 3);
        check.due("one behind the end", one.field(0, 3) + " " + one.field(0, PLACE), "22 1");
        CreaturePond both = after(22, 44, 66, 22, 22, 22, 22, 1);
        check.due("both behind the end", both.field(0, 6) + " " + both.field(0, PLACE), "44 2");
        CreaturePond turned = after(22, 44, 66, 22, 22, 22, 22, TURN, 3);
        check.due("an act's one up to the end", turned.field(0, HEADING) + " " + turned.field(0, PLACE), "3 0");
        CreaturePond round = after(22, 44, 66, 22, 22, 22, 22, TURN);
        check.due("an act's one behind the end", round.field(0, HEADING) + " " + round.field(0, PLACE), "2 1");
        register("the longest code, up to its end", 3, 5, 11, 17, 0, 0, 0, 0, 0, 0, 0, 0, 0, 0, 0, 0, 0, 0, 0, 1, 3, 5);
        register("the longest code, one behind its end", 3, 11,
                11, 18, 0, 0, 0, 0, 0, 0, 0, 0, 0, 0, 0, 0, 0, 0, 0, 0, 1, 3);
        register("the longest code, both behind its end", 3, 19,
                11, 19, ASK, 0, 0, 0, 0, 0, 0, 0, 0, 0, 0, 0, 0, 0, 0, 0, 0, 1);
        check.due("a jump's one behind the end",
                after(12, 44, 66, 22, 22, 22, 22, 22, 22, 22, 22, 11).field(0, PLACE), 6);
    }

    private void shortestCodes() {
        check.part("Operations: the code goes on at its beginning, a code of one byte or two");
        register("1 takes itself twice", 1, 1, 1);
        check.due("MARK takes itself as r", after(MARK).field(0, PLACE), 0);
        check.due("TURN takes itself as v", after(TURN).field(0, HEADING) + " " + after(TURN).field(0, PLACE), "0 0");
        check.due("GIVE takes itself as v", beside(GIVE).field(1, ENERGY), 99 - 19);
        check.due("11 takes itself as v", after(11).field(0, PLACE), 0);
        CreaturePond two = after(1, 2);
        check.due("1 2, then 2 1", two.field(0, 2) + " " + two.field(0, 1) + " " + two.field(0, PLACE), "1 1 0");
        check.due("TURN with the one behind it", after(TURN, 3).field(0, HEADING), 3);
        check.due("0, then TURN with the one before it", after(22, TURN).field(0, HEADING), 2);
    }

    private void placeModuloTheLength() {
        check.part("Operations: PLACE is then behind them (modulo the length)");
        for (int operation = 0; operation < 22; operation++) {
            if (operation < 11 || operation > 12) {
                int behind = 8 + OPERANDS[operation];
                check.due("the last place behind " + operation, placeBehind(operation, behind + 1), behind);
                check.due("the first place behind " + operation, placeBehind(operation, behind), 0);
                if (behind > 8) {
                    check.due("the second place behind " + operation, placeBehind(operation, behind - 1), 1);
                }
            }
        }
        check.due("the third place behind 1", placeBehind(1, 8), 2);
    }

    /** The PLACE when seven operations did nothing and an eighth was done in a code of this length. */
    private static int placeBehind(int operation, int length) {
        int[] code = new int[length];
        code[7] = operation;
        return after(code).field(0, PLACE);
    }

    private void placeWithoutJump() {
        check.part("Operations: PLACE is then behind them, but for jumps (when 12 and 13 do not jump)");
        for (int operation = 12; operation <= 13; operation++) {
            check.due("the last place behind " + operation,
                    after(0, 0, 0, 0, 0, 0, 1, 0, 1, operation, 0, 5, 0).field(0, PLACE), 12);
            check.due("the first place behind " + operation,
                    after(0, 0, 0, 0, 0, 0, 1, 0, 1, operation, 0, 5).field(0, PLACE), 0);
            check.due("the second place behind " + operation,
                    after(0, 0, 0, 0, 0, 0, 1, 0, 1, operation, 0).field(0, PLACE), 1);
        }
    }

    /** The answer is the same for each operand as for the one that its lowest bits are. */
    private void sameByLowestBits(int operation, boolean first, int mask, int other) {
        for (int b = 0; b < 256; b++) {
            int low = b & mask;
            check.dueText("operation " + operation + " of " + b,
                    withoutCode(loadedBeside(operation, first ? b : other, first ? other : b)),
                    withoutCode(loadedBeside(operation, first ? low : other, first ? other : low)));
        }
    }

    private static CreaturePond loadedBeside(int operation, int first, int second) {
        return beside(1, 0, 35, 1, 7, -3, 1, 6, 90, operation, first, second, ASK);
    }

    private void registersByThreeBits() {
        check.part("Operations: Register r is r & 7, register v is v & 7");
        for (int operation : new int[] {1, 2, 3, 4, 5, 6, 7, 8, 9, 10, 12, 13, 14, 15}) {
            sameByLowestBits(operation, true, 7, 6);
        }
        for (int operation : new int[] {2, 3, 4, 5, 6, 9, 10}) {
            sameByLowestBits(operation, false, 7, 0);
        }
        register("r 7", 7, 9, 1, 7, 9, ASK);
        register("r 8", 0, 9, 1, 8, 9, ASK);
        register("r -1", 7, 9, 1, -1, 9, ASK);
        register("r -8", 0, 9, 1, -8, 9, ASK);
        register("v 7", 1, 9, 1, 7, 9, 2, 1, 7, ASK);
        register("v 8", 1, 9, 1, 0, 9, 2, 1, 8, ASK);
        register("v -1", 1, 9, 1, 7, 9, 2, 1, -1, ASK);
    }

    private void eachRegister() {
        check.part("Operations: Register r, register v: each of the eight");
        for (int i = 0; i < 64; i++) {
            int r = i / 8;
            int v = i % 8;
            register("2 of " + r + ", " + v, r, 9, 1, v, 9, 2, r, v, ASK);
            register("3 of " + r + ", " + v, r, r == v ? 18 : 9, 1, v, 9, 3, r, v, ASK);
            register("4 of " + r + ", " + v, r, r == v ? 0 : -9, 1, v, 9, 4, r, v, ASK);
            register("6 of " + r + ", " + v, r, r == v ? 0 : 9, 1, v, 9, 6, r, v, ASK);
            register("9 of " + r + ", " + v, r, 7, 1, 0, 7, 10, 0, 0, 1, 0, 0, 1, v, 7, 9, r, v, ASK);
            CreaturePond kept = after(1, r, 5, 1, v, 7, 10, r, v, ASK);
            check.due("10 of " + r + ", " + v, kept.inner(0, false, 7), (byte) (r == v ? 7 : 5));
            // A jump leads to ASK; without it a turn is the act.
            check.due("12 of " + r + " when only " + v + " is not 0",
                    after(1, v, 1, 12, r, 8, TURN, 0, ASK).field(0, ASKED), r == v ? 0 : 1);
            check.due("13 of " + r + " when only " + v + " is below 0",
                    after(1, v, -1, 13, r, 8, TURN, 0, ASK).field(0, ASKED), r == v ? 1 : 0);
        }
        for (int r = 0; r < 8; r++) {
            register("7 of " + r, r, 18, 1, r, 9, 7, r, ASK);
            register("8 of " + r, r, 4, 1, r, 9, 8, r, ASK);
            check.due("14 of " + r, beside(14, r, 0, ASK).field(1, r), 45);
            register("15 of " + r, r, 99, 15, r, 0, ASK);
        }
    }

    private void memoryByFourBits() {
        check.part("Operations: memory m is its lowest four bits");
        for (int m = -128; m < 128; m++) {
            int place = Math.floorMod(m, 16);
            CreaturePond pond = after(1, 0, m, 1, 1, 99, 10, 1, 0, ASK);
            check.due("10 at " + m, pond.inner(0, false, place), (byte) 99);
            check.due("10 at " + m + " is all", pond.inner(0, false, (place + 1) % 16), (byte) 0);
            register("9 at " + m, 3, 99, 1, 0, place, 1, 1, 99, 10, 1, 0, 1, 2, m, 9, 3, 2, ASK);
            register("9 beside " + m, 3, 0, 1, 0, place, 1, 1, 99, 10, 1, 0, 1, 2, m + 1, 9, 3, 2, ASK);
        }
        check.due("15", after(1, 0, 15, 1, 1, 99, 10, 1, 0, ASK).inner(0, false, 15), (byte) 99);
        check.due("16", after(1, 0, 16, 1, 1, 99, 10, 1, 0, ASK).inner(0, false, 0), (byte) 99);
        check.due("-1", after(1, 0, -1, 1, 1, 99, 10, 1, 0, ASK).inner(0, false, 15), (byte) 99);
        check.due("-16", after(1, 0, -16, 1, 1, 99, 10, 1, 0, ASK).inner(0, false, 0), (byte) 99);
    }

    private void jumpsModuloTheLength() {
        check.part("Operations: PLACE is (v & 255) modulo the length");
        for (int length = 12; length <= 20; length++) {
            for (int v = 0; v < 256; v++) {
                int[] plain = new int[length];
                plain[7] = 11;
                plain[8] = v;
                check.due("11 to " + v + " of " + length, after(plain).field(0, PLACE), v % length);
                int[] zero = new int[length];
                zero[7] = 12;
                zero[9] = v;
                check.due("12 to " + v + " of " + length, after(zero).field(0, PLACE), v % length);
                int[] below = {0, 0, 0, 0, 0, 0, 1, 0, -1, 13, 0, v};
                check.due("13 to " + v + " of " + length,
                        after(Arrays.copyOf(below, length)).field(0, PLACE), v % length);
            }
        }
        int[] last = {0, 0, 0, 0, 0, 0, 0, 11, 9, 0};
        check.due("to the last", after(last).field(0, PLACE), 9);
        last[8] = 10;
        check.due("to the length", after(last).field(0, PLACE), 0);
        last[8] = 11;
        check.due("beyond the length", after(last).field(0, PLACE), 1);
        last[8] = -1;
        check.due("to -1, 255", after(last).field(0, PLACE), 5);
    }

    private void jumpIfZero() {
        check.part("Operations: so if register r is 0");
        for (int value : new int[] {-128, -1, 0, 1, 127}) {
            register("12 at " + value, 1, value == 0 ? 0 : 9, 1, 0, value, 12, 0, 9, 1, 1, 9, ASK);
        }
    }

    private void jumpIfBelow() {
        check.part("Operations: so if it is below 0");
        for (int value : new int[] {-128, -1, 0, 1, 127}) {
            register("13 at " + value, 1, value < 0 ? 0 : 9, 1, 0, value, 13, 0, 9, 1, 1, 9, ASK);
        }
    }

    private void halves() {
        check.part("Operations: (register & 255) >> 1");
        for (int value = -128; value < 128; value++) {
            register("8 of " + value, 0, Math.floorMod(value, 256) / 2, 1, 0, value, 8, 0, ASK);
        }
    }

    private void aheadByTwoBits() {
        check.part("Operations: what is ahead: v & 3");
        sameByLowestBits(14, false, 3, 5);
        CreaturePond pond = beside(14, 0, 0, 14, 1, 1, 14, 2, 2, 14, 3, 3, 14, 4, 4, 14, 5, -1, ASK);
        check.due("0 to 4 and -1", pond.field(1, 0) + " " + pond.field(1, 1) + " " + pond.field(1, 2) + " "
                + pond.field(1, 3) + " " + pond.field(1, 4) + " " + pond.field(1, 5), "45 1 -9 2 45 2");
    }

    private static final int[][] GRAINS = {{0, 0}, {1, 0}, {2, 1}, {3, 1}, {249, 124}, {250, 125}};

    private void grainAhead() {
        check.part("Operations: 0 its grain >> 1");
        for (int[] grain : GRAINS) {
            CreaturePond pond = new CreaturePond(3, 3);
            pond.grain(1, 0, grain[0]);
            put(pond, 1, 1, 0, 100, 14, 0, 0, ASK);
            pond.tick(1);
            check.due("grain " + grain[0], pond.field(0, 0), grain[1]);
        }
    }

    private void animalAhead() {
        check.part("Operations: 1 whether an animal is there (1 or 0)");
        check.due("there", beside(14, 3, 1, ASK).field(1, 3), 1);
        register("not there", 3, 0, 1, 3, 5, 14, 3, 1, ASK);
        CreaturePond behind = new CreaturePond(3, 3);
        put(behind, 1, 1, 2, 100, 1, 3, 5, 14, 3, 1, ASK);
        put(behind, 1, 0, 2, 100);
        behind.tick(1);
        check.due("behind it", behind.field(0, 3), 0);
        CreaturePond dying = new CreaturePond(3, 3);
        put(dying, 1, 0, 3, 1);
        put(dying, 1, 1, 0, 100, 14, 3, 1, 14, 4, 3, ASK);
        dying.tick(1);
        check.due("there until step 4", dying.field(1, 3) + " " + dying.field(1, 4), "1 3");
        dying.tick(1);
        check.due("no more then", dying.field(1, 3) + " " + dying.field(1, 4), "0 -1");
    }

    private void markAhead() {
        check.part("Operations: 2 its mark");
        for (int mark : new int[] {-128, -1, 0, 1, 127}) {
            CreaturePond pond = new CreaturePond(3, 3);
            put(pond, 1, 0, 2, 100, 1, 0, mark, MARK, 0);
            put(pond, 1, 1, 0, 100, 1, 3, 5, 14, 3, 2, ASK);
            pond.tick(1);
            check.due("mark " + mark, pond.field(1, 3), mark);
        }
    }

    private void headingAhead() {
        check.part("Operations: 3 the heading of the animal there, -1 if there is none");
        for (int heading = 0; heading < 4; heading++) {
            CreaturePond pond = new CreaturePond(3, 3);
            put(pond, 1, 0, heading, 100);
            put(pond, 1, 1, 0, 100, 1, 3, 5, 14, 3, 3, ASK);
            pond.tick(1);
            check.due("heading " + heading, pond.field(1, 3), heading);
        }
        register("none", 3, -1, 1, 3, 5, 14, 3, 3, ASK);
    }

    private void itselfByTwoBits() {
        check.part("Operations: of itself: 0, 1, 2, 3");
        sameByLowestBits(15, false, 3, 5);
        CreaturePond pond = new CreaturePond(3, 3);
        pond.grain(1, 1, 53);
        put(pond, 1, 1, 3, 100, 15, 0, 0, 15, 1, 1, 15, 2, 2, 15, 3, 3, ASK);
        pond.tick(1);
        check.due("0 to 3", pond.field(0, 0) + " " + pond.field(0, 1) + " " + pond.field(0, 2) + " " + pond.field(0, 3),
                "99 1 3 26");
    }

    private void ownEnergy() {
        check.part("Operations: 0 the lesser of energy and 127");
        for (int energy : new int[] {1, 2, 126, 127, 128, 129, 255, 256, 511, 999}) {
            CreaturePond pond = new CreaturePond(3, 3);
            put(pond, 1, 1, 0, energy + 1, 15, 3, 0, ASK);
            pond.tick(1);
            check.due("energy " + energy, pond.field(0, 3), energy < 127 ? energy : 127);
        }
    }

    private void ownAge() {
        check.part("Operations: 1 age & 127");
        for (int age : new int[] {1, 126, 127, 128, 129, 199}) {
            CreaturePond pond = new CreaturePond(3, 3);
            put(pond, 1, 1, 0, 1000, 15, 3, 1, ASK);
            pass(pond, age);
            check.due("age " + age, pond.field(0, 3), age < 128 ? age : age - 128);
        }
    }

    private void ownHeading() {
        check.part("Operations: 2 heading");
        for (int heading = 0; heading < 4; heading++) {
            CreaturePond pond = new CreaturePond(3, 3);
            put(pond, 1, 1, heading, 100, 1, 3, 5, 15, 3, 2, ASK);
            pond.tick(1);
            check.due("heading " + heading, pond.field(0, 3), heading);
        }
    }

    private void ownGrain() {
        check.part("Operations: 3 the grain of its cell >> 1");
        for (int[] grain : GRAINS) {
            CreaturePond pond = new CreaturePond(3, 3);
            pond.grain(1, 1, grain[0]);
            put(pond, 1, 1, 0, 100, 1, 3, 7, 15, 3, 3, ASK);
            pond.tick(1);
            check.due("grain " + grain[0], pond.field(0, 3), grain[1]);
        }
    }

    private void turning() {
        check.part("Acts: heading is (heading + v) & 3");
        for (int heading = 0; heading < 4; heading++) {
            for (int v = -128; v < 128; v++) {
                CreaturePond pond = new CreaturePond(3, 3);
                put(pond, 1, 1, heading, 100, TURN, v);
                pond.tick(1);
                check.due(heading + " by " + v, pond.field(0, HEADING), Math.floorMod(heading + v, 4));
            }
        }
    }

    /** What a step leaves: the energy, the STORE, and whether another one saw it in the next cell. */
    private static String step(int energy) {
        CreaturePond pond = new CreaturePond(4, 4);
        put(pond, 0, 0, 1, energy, STEP);
        put(pond, 1, 1, 0, 100, 14, 0, 1, ASK);
        pond.tick(1);
        return pond.field(0, ENERGY) + " " + (pond.total(STORE) - 1) + " " + pond.field(1, 0);
    }

    private void stepPays() {
        check.part("Acts: it pays 2; then it goes ahead");
        check.due("with 100", step(100), "97 3 1");
        check.due("with 3 when it acts", step(4), "1 3 1");
        check.due("with 2 when it acts", step(3), "-1 3 1");
        check.due("with 1 when it acts", step(2), "-1 2 1");
        check.due("it does not act with 0", step(1), "-1 1 0");
    }

    private void stepIfThereIsNoAnimal() {
        check.part("Acts: then it goes ahead, if there is no animal");
        for (int heading = 0; heading < 4; heading++) {
            CreaturePond pond = new CreaturePond(3, 3);
            int x = new int[] {1, 2, 1, 0}[heading];
            int y = new int[] {0, 1, 2, 1}[heading];
            put(pond, 1, 1, heading, 100, STEP);
            put(pond, x, y, heading, 2);
            pond.tick(1);
            check.due("it stays, heading " + heading, pond.cell(1, 1, 2) + " " + pond.cell(x, y, 2), "0 1");
            check.due("it pays, heading " + heading, pond.field(0, ENERGY), 97);
            pond.tick(1);
            check.due("one that dies in this tick is there", pond.cell(1, 1, 2) + " " + pond.cell(x, y, 2), "0 -1");
            pond.tick(1);
            check.due("it goes when there is none", pond.cell(1, 1, 2) + " " + pond.cell(x, y, 2), "-1 0");
            check.due("it pays as much", pond.field(0, ENERGY), 91);
        }
    }

    private void eating() {
        check.part("Acts: it takes the lesser of 30 and the grain of its cell as energy");
        for (int grain : new int[] {0, 1, 29, 30, 31, 250}) {
            CreaturePond pond = new CreaturePond(3, 3);
            pond.grain(1, 1, grain);
            pond.grain(1, 0, 99);
            put(pond, 1, 1, 0, 1000, EAT);
            pond.tick(1);
            int eaten = grain < 30 ? grain : 30;
            check.due("of " + grain, pond.field(0, ENERGY) + " " + pond.cell(1, 1, 0) + " " + pond.cell(1, 0, 0),
                    999 + eaten + " " + (grain - eaten) + " 99");
        }
    }

    private void givingBySixBits() {
        check.part("Acts: gets the lesser of v & 63");
        for (int v = -128; v < 128; v++) {
            CreaturePond pond = beside(GIVE, v);
            int gift = Math.floorMod(v, 64);
            check.due("v " + v, pond.field(1, ENERGY) + " " + pond.field(0, ENERGY), 99 - gift + " " + (299 + gift));
        }
        check.due("63", beside(GIVE, 63).field(1, ENERGY), 36);
        check.due("64", beside(GIVE, 64).field(1, ENERGY), 99);
        check.due("-1", beside(GIVE, -1).field(1, ENERGY), 36);
    }

    /** The energies of the giver and the other one, and the deaths, when the giver acts with 20 energy. */
    private static String gift(int v) {
        CreaturePond pond = new CreaturePond(3, 3);
        put(pond, 0, 0, 1, 21, GIVE, v);
        put(pond, 1, 0, 1, 100);
        pond.tick(1);
        return pond.field(0, ENERGY) + " " + pond.field(1, ENERGY) + " " + pond.total(DEATHS);
    }

    private void givingWhatItHas() {
        check.part("Acts: the lesser of v & 63 and its energy from it");
        check.due("0 of 20", gift(0), "20 99 0");
        check.due("19 of 20", gift(19), "1 118 0");
        check.due("20 of 20", gift(20), "-1 119 1");
        check.due("21 of 20", gift(21), "-1 119 1");
        check.due("63 of 20", gift(63), "-1 119 1");
        CreaturePond saved = new CreaturePond(3, 3);
        put(saved, 1, 0, 0, 1, ASK);
        put(saved, 0, 0, 1, 100, GIVE, 1);
        saved.tick(1);
        check.due("to one that had none left", saved.field(0, ENERGY) + " " + saved.field(1, ENERGY), "1 98");
    }

    private void givingToNone() {
        check.part("Acts: the animal ahead, if there is one");
        CreaturePond pond = new CreaturePond(3, 3);
        put(pond, 0, 0, 1, 100, GIVE, 63);
        put(pond, 2, 0, 1, 100);
        put(pond, 0, 1, 1, 100);
        pond.tick(1);
        check.due("none ahead", pond.field(0, ENERGY) + " " + pond.field(1, ENERGY) + " " + pond.field(2, ENERGY)
                + " " + pond.total(STORE), "99 99 99 3");
    }

    private void marking() {
        check.part("Acts: the mark of its cell becomes register r");
        for (int r = 0; r < 256; r++) {
            CreaturePond pond = after(1, r & 7, 77, 1, r + 1 & 7, 88, MARK, r);
            check.due("r " + r, pond.cell(1, 1, 1) + " " + pond.cell(1, 0, 1), "77 0");
        }
        CreaturePond again = after(1, 0, 9, MARK, 0, MARK, 1);
        again.tick(1);
        check.due("0 in place of 9", again.cell(1, 1, 1), 0);
    }

    private void asking() {
        check.part("Acts: it ASKS");
        CreaturePond pond = after(ASK, TURN, 0);
        check.due("in the latest tick", pond.field(0, ASKED), 1);
        pond.tick(0);
        check.due("no tick since", pond.field(0, ASKED), 1);
        pond.tick(1);
        check.due("not in the latest tick", pond.field(0, ASKED), 0);
        pond.tick(1);
        check.due("again", pond.field(0, ASKED), 1);
    }

    private void paying() {
        check.part("Acts: to PAY n is to give the lesser of n and the energy to the STORE");
        for (int energy = 1; energy <= 5; energy++) {
            CreaturePond still = new CreaturePond(3, 3);
            still.animal(0, 0, 0, energy);
            still.tick(1);
            check.due("1 of " + energy, still.total(0) + " " + still.total(STORE), energy - 1 + " 1");
            CreaturePond going = new CreaturePond(3, 3);
            put(going, 0, 0, 0, energy, STEP);
            going.tick(1);
            int paid = energy < 3 ? energy : 3;
            check.due("1 and 2 of " + energy, going.total(0) + " " + going.total(STORE), energy - paid + " " + paid);
        }
    }

    private void eachDoesThatAlone() {
        check.part("Operations and acts: each does what it does, and nothing else");
        String[] due = {
            "heading 0 at 1 1 energy 99 r3 5 r4 6 m6 0 asked 0 grain 53 91 mark 0 -9 other 299 STORE 2",
            "heading 0 at 1 1 energy 99 r3 4 r4 6 m6 0 asked 0 grain 53 91 mark 0 -9 other 299 STORE 2",
            "heading 0 at 1 1 energy 99 r3 6 r4 6 m6 0 asked 0 grain 53 91 mark 0 -9 other 299 STORE 2",
            "heading 0 at 1 1 energy 99 r3 11 r4 6 m6 0 asked 0 grain 53 91 mark 0 -9 other 299 STORE 2",
            "heading 0 at 1 1 energy 99 r3 -1 r4 6 m6 0 asked 0 grain 53 91 mark 0 -9 other 299 STORE 2",
            "heading 0 at 1 1 energy 99 r3 4 r4 6 m6 0 asked 0 grain 53 91 mark 0 -9 other 299 STORE 2",
            "heading 0 at 1 1 energy 99 r3 3 r4 6 m6 0 asked 0 grain 53 91 mark 0 -9 other 299 STORE 2",
            "heading 0 at 1 1 energy 99 r3 10 r4 6 m6 0 asked 0 grain 53 91 mark 0 -9 other 299 STORE 2",
            "heading 0 at 1 1 energy 99 r3 2 r4 6 m6 0 asked 0 grain 53 91 mark 0 -9 other 299 STORE 2",
            "heading 0 at 1 1 energy 99 r3 0 r4 6 m6 0 asked 0 grain 53 91 mark 0 -9 other 299 STORE 2",
            "heading 0 at 1 1 energy 99 r3 5 r4 6 m6 5 asked 0 grain 53 91 mark 0 -9 other 299 STORE 2",
            "heading 0 at 1 1 energy 99 r3 5 r4 6 m6 0 asked 0 grain 53 91 mark 0 -9 other 299 STORE 2",
            "heading 0 at 1 1 energy 99 r3 5 r4 6 m6 0 asked 0 grain 53 91 mark 0 -9 other 299 STORE 2",
            "heading 0 at 1 1 energy 99 r3 5 r4 6 m6 0 asked 0 grain 53 91 mark 0 -9 other 299 STORE 2",
            "heading 0 at 1 1 energy 99 r3 45 r4 6 m6 0 asked 0 grain 53 91 mark 0 -9 other 299 STORE 2",
            "heading 0 at 1 1 energy 99 r3 99 r4 6 m6 0 asked 0 grain 53 91 mark 0 -9 other 299 STORE 2",
            "heading 3 at 1 1 energy 99 r3 5 r4 6 m6 0 asked 0 grain 53 91 mark 0 -9 other 299 STORE 2",
            "heading 0 at 1 1 energy 97 r3 5 r4 6 m6 0 asked 0 grain 53 91 mark 0 -9 other 299 STORE 4",
            "heading 0 at 1 1 energy 129 r3 5 r4 6 m6 0 asked 0 grain 23 91 mark 0 -9 other 299 STORE 2",
            "heading 0 at 1 1 energy 96 r3 5 r4 6 m6 0 asked 0 grain 53 91 mark 0 -9 other 302 STORE 2",
            "heading 0 at 1 1 energy 99 r3 5 r4 6 m6 0 asked 0 grain 53 91 mark 5 -9 other 299 STORE 2",
            "heading 0 at 1 1 energy 99 r3 5 r4 6 m6 0 asked 1 grain 53 91 mark 0 -9 other 299 STORE 2"};
        for (int operation = 0; operation < 22; operation++) {
            // Five operations do nothing and two load registers, so that this one is the eighth.
            check.due("operation " + operation, summary(beside(0, 0, 0, 0, 0, 1, 3, 5, 1, 4, 6, operation, 3, 4, 0)),
                    due[operation]);
        }
        CreaturePond step = new CreaturePond(3, 3);
        step.grain(1, 1, 50);
        step.grain(1, 0, 50);
        put(step, 1, 1, 0, 100, STEP);
        step.tick(1);
        check.due("a step alone", step.field(0, Y) + " " + step.field(0, ENERGY) + " " + step.cell(1, 0, 0) + " "
                + step.cell(1, 1, 0), "0 97 50 50");
    }

    private static String summary(CreaturePond pond) {
        return "heading " + pond.field(1, HEADING) + " at " + pond.field(1, X) + " " + pond.field(1, Y) + " energy "
                + pond.field(1, ENERGY) + " r3 " + pond.field(1, 3) + " r4 " + pond.field(1, 4) + " m6 "
                + pond.inner(1, false, 6) + " asked " + pond.field(1, ASKED) + " grain " + pond.cell(1, 1, 0) + " "
                + pond.cell(1, 0, 0) + " mark " + pond.cell(1, 1, 1) + " " + pond.cell(1, 0, 1) + " other "
                + pond.field(0, ENERGY) + " STORE " + pond.total(STORE);
    }
}

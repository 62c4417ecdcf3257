/** The sentences on A TICK that name a boundary, one test for each: the last value allowed, and the first beyond. */
public final class TickEdgesTest extends Ponds {
    private static final int[] RIGHT = {0, 1, 0, -1};
    private static final int[] DOWN = {-1, 0, 1, 0};

    public static void main(String[] args) {
        TickEdgesTest test = new TickEdgesTest();
        test.check.each(
                test::asOftenAsSunSays, test::whileThereIsStore, test::firstBehindTheLast, test::lessThan250,
                test::itWasItsTurn, test::byTheirNumbers, test::ageGrows, test::whileItHasEnergy, test::upToEight,
                test::noneBehindAnAct, test::withoutCode, test::bothAsked, test::inThisTick,
                test::eachAheadOfTheOther, test::byTheLesserNumber, test::atLeast40, test::energyAtBreeding,
                test::cellWithoutAnimal, test::aroundTheLesser, test::fewerThan16, test::fewerThan16ForTwoPairs,
                test::roundedDown, test::generation, test::childIsNew, test::cutAt, test::asFarAsItHasThem,
                test::oneInFour, test::changedByte, test::itHasBytes, test::childDoesNotAct, test::childCanNotBreed,
                test::childOfADeadOnesNumber, test::withoutEnergy, test::age200, test::oldOnesBreed, test::isNoMore,
                test::above250);
        test.check.end();
    }

    /** A pond of 4 by 3 cells after one tick: its grain, STORE, and whose turn it is. */
    private static String sunny(int sun, int store) {
        CreaturePond pond = new CreaturePond(4, 3);
        pond.set(sun, 0);
        pond.store(store);
        pond.tick(1);
        return told(pond);
    }

    private static String told(CreaturePond pond) {
        return pond.total(1) + " " + pond.total(STORE) + " " + pond.total(SUNS_TURN);
    }

    private void asOftenAsSunSays() {
        check.part("Tick: As often as SUN says");
        check.due("0", sunny(0, 100), "0 100 0");
        check.due("1", sunny(1, 100), "1 99 1");
        check.due("50, some four times round", sunny(50, 100), "50 50 2");
        CreaturePond pond = new CreaturePond(4, 3);
        pond.set(3, 0);
        pond.store(100);
        pond.tick(0);
        check.due("no tick", told(pond), "0 100 0");
        pond.tick(1);
        check.due("a tick", told(pond), "3 97 3");
        check.due("cells 0 to 3", pond.cell(0, 0, 0) + " " + pond.cell(1, 0, 0) + " " + pond.cell(2, 0, 0) + " "
                + pond.cell(3, 0, 0), "1 1 1 0");
        pond.tick(3);
        check.due("three more", told(pond), "12 88 0");
    }

    private void whileThereIsStore() {
        check.part("Tick: but while the STORE is above 0");
        check.due("STORE 0", sunny(5, 0), "0 0 0");
        check.due("STORE 1", sunny(5, 1), "1 0 1");
        check.due("STORE 4", sunny(5, 4), "4 0 4");
        check.due("STORE 5", sunny(5, 5), "5 0 5");
        check.due("STORE 6", sunny(5, 6), "5 1 5");
        CreaturePond full = new CreaturePond(4, 3);
        full.grain(0, 0, 250);
        full.set(5, 0);
        full.tick(1);
        check.due("no turn without STORE, in a full cell either", told(full), "250 0 0");
        CreaturePond paid = new CreaturePond(4, 3);
        paid.set(5, 0);
        paid.animal(0, 0, 0, 50);
        paid.tick(1);
        check.due("what is paid in this tick comes too late", told(paid), "0 1 0");
        paid.tick(1);
        check.due("it comes in the next", told(paid), "1 1 1");
    }

    private void firstBehindTheLast() {
        check.part("Tick: and the first behind the last");
        check.due("the last", sunny(11, 100), "11 89 11");
        check.due("the first", sunny(12, 100), "12 88 0");
        check.due("the second", sunny(13, 100), "13 87 1");
        int[][] sizes = {{3, 3}, {3, 10}, {10, 3}, {10, 10}, {7, 4}};
        for (int[] size : sizes) {
            CreaturePond pond = new CreaturePond(size[0], size[1]);
            int cells = size[0] * size[1];
            pond.set(1, 0);
            pond.store(1000);
            pass(pond, cells - 1);
            check.due("the last of " + cells, pond.total(SUNS_TURN), cells - 1);
            check.due("has none yet", pond.cell(size[0] - 1, size[1] - 1, 0), 0);
            pond.tick(1);
            check.due("the first of " + cells, pond.total(SUNS_TURN), 0);
            check.due("the last has one", pond.cell(size[0] - 1, size[1] - 1, 0), 1);
            check.due("the first has one still", pond.cell(0, 0, 0), 1);
            pond.tick(1);
            check.due("the first has two", pond.cell(0, 0, 0) + " " + pond.total(SUNS_TURN), "2 1");
        }
    }

    private void lessThan250() {
        check.part("Tick: if it has less than 250");
        for (int grain : new int[] {0, 248, 249, 250}) {
            CreaturePond pond = new CreaturePond(4, 3);
            pond.grain(0, 0, grain);
            pond.set(1, 0);
            pond.store(9);
            pond.tick(1);
            int got = grain < 250 ? 1 : 0;
            check.due("it has " + grain, told(pond), grain + got + " " + (9 - got) + " 1");
        }
    }

    private void itWasItsTurn() {
        check.part("Tick: it was its turn then");
        CreaturePond pond = new CreaturePond(3, 3);
        pond.grain(0, 0, 250);
        pond.grain(1, 0, 250);
        pond.set(3, 0);
        pond.store(9);
        pond.tick(1);
        check.due("two full cells and one other", told(pond), "501 8 3");
        CreaturePond full = new CreaturePond(3, 3);
        for (int i = 0; i < 9; i++) {
            full.grain(i % 3, i / 3, 250);
        }
        full.set(50, 0);
        full.store(9);
        full.tick(1);
        check.due("all full", told(full), "2250 9 5");
    }

    private void byTheirNumbers() {
        check.part("Tick: The animals that there are, by their numbers");
        // Each of them steps right in a row; a lesser number finds its way blocked by a greater one, not the other way.
        CreaturePond up = new CreaturePond(10, 3);
        CreaturePond down = new CreaturePond(10, 3);
        for (int i = 0; i < 5; i++) {
            put(up, i, 0, 1, 50, STEP);
            put(down, 4 - i, 0, 1, 50, STEP);
        }
        up.tick(1);
        down.tick(1);
        for (int i = 0; i < 5; i++) {
            check.due("least on the left: " + i, up.field(i, X), i < 4 ? i : 5);
            check.due("least on the right: " + i, down.field(i, X), 5 - i);
        }
        CreaturePond ends = new CreaturePond(6, 6);
        for (int i = 0; i < 16; i++) {
            ends.animal(i % 6, i / 6, 0, 50);
        }
        ends.tick(1);
        check.due("0 and 15 both", ends.field(0, AGE) + " " + ends.field(15, AGE) + " " + ends.total(STORE), "1 1 16");
    }

    private void ageGrows() {
        check.part("Tick: age grows by 1, it pays 1");
        CreaturePond pond = new CreaturePond(3, 3);
        pond.animal(0, 0, 0, 60);
        check.due("new", pond.field(0, AGE), 0);
        pond.tick(0);
        check.due("no tick", pond.field(0, AGE) + " " + pond.field(0, ENERGY), "0 60");
        pond.tick(1);
        check.due("a tick", pond.field(0, AGE) + " " + pond.field(0, ENERGY) + " " + pond.total(STORE), "1 59 1");
        pond.tick(50);
        check.due("51 ticks", pond.field(0, AGE) + " " + pond.field(0, ENERGY) + " " + pond.total(STORE), "51 9 51");
    }

    private void whileItHasEnergy() {
        check.part("Tick: while it has energy");
        for (int energy = 1; energy <= 3; energy++) {
            CreaturePond pond = new CreaturePond(3, 3);
            pond.grain(1, 1, 40);
            put(pond, 1, 1, 0, energy, 1, 0, 5, MARK, 0, EAT);
            pond.tick(1);
            check.due("it began with " + energy, pond.cell(1, 1, 1) + " " + pond.field(0, PLACE),
                    energy == 1 ? "0 -1" : "5 5");
        }
        CreaturePond hungry = new CreaturePond(3, 3);
        hungry.grain(1, 1, 40);
        put(hungry, 1, 1, 0, 1, EAT);
        hungry.tick(1);
        check.due("it can not eat without energy", hungry.cell(1, 1, 0) + " " + hungry.total(4), "40 0");
        CreaturePond just = new CreaturePond(3, 3);
        just.grain(1, 1, 40);
        put(just, 1, 1, 0, 2, EAT);
        just.tick(1);
        check.due("with 1 it can", just.cell(1, 1, 0) + " " + just.field(0, ENERGY), "10 31");
    }

    private void upToEight() {
        check.part("Tick: it does up to 8 operations");
        int[] code = {7, 0, 0, 0, 0, 0, 0, 0, 0, 0, 0};
        for (int at = 0; at < 11; at++) {
            int[] asking = new int[11];
            asking[at] = ASK;
            CreaturePond pond = after(asking);
            check.due("an act as number " + (at + 1), pond.field(0, ASKED) + " " + pond.field(0, PLACE),
                    at < 8 ? "1 " + (at + 1) : "0 8");
        }
        check.due("eight", after(code).field(0, PLACE), 9);
        CreaturePond pond = after(new int[20]);
        check.due("a first tick", pond.field(0, PLACE), 8);
        pond.tick(1);
        check.due("the next goes on there", pond.field(0, PLACE), 16);
        pond.tick(1);
        check.due("and round", pond.field(0, PLACE), 4);
        // Register 0 grows by register 1 in each round of a code that is a jump and a sum.
        register("jumps count", 0, 4, 1, 1, 1, 3, 0, 1, 11, 3);
    }

    private void noneBehindAnAct() {
        check.part("Tick: but none behind an act");
        for (int operation = 0; operation < 22; operation++) {
            // Where an operation has operands, they are 0, 0: a jump to the beginning is left out.
            if (operation < 11 || operation > 12) {
                int[] code = new int[14];
                code[0] = operation;
                code[3] = 1;
                code[4] = 5;
                code[5] = 9;
                check.due("behind " + operation, after(code).field(0, 5), operation < 16 ? 9 : 0);
            }
        }
        CreaturePond pond = after(TURN, 0, TURN, 1, TURN, 1);
        check.due("one act", pond.field(0, HEADING) + " " + pond.field(0, PLACE), "0 2");
        pond.tick(1);
        check.due("one more in the next tick", pond.field(0, HEADING) + " " + pond.field(0, PLACE), "1 4");
        check.due("one step", after(STEP, STEP).field(0, Y), 0);
    }

    private void withoutCode() {
        check.part("Tick: without code it does none");
        CreaturePond pond = after();
        check.due("none", pond.field(0, PLACE) + " " + pond.field(0, ASKED) + " " + pond.field(0, X) + " "
                + pond.field(0, Y) + " " + pond.field(0, HEADING), "0 0 1 1 0");
        check.due("it pays and ages", pond.field(0, ENERGY) + " " + pond.field(0, AGE), "99 1");
        pond.code(0, 1, ASK);
        pond.tick(1);
        check.due("with one byte it does", pond.field(0, ASKED), 1);
        CreaturePond used = new CreaturePond(3, 3);
        put(used, 0, 0, 0, 1, ASK);
        used.tick(1);
        used.animal(0, 0, 0, 9);
        used.tick(1);
        check.due("the code of one that had its number is not its own", used.field(0, ASKED), 0);
    }

    /** How many births there are when two, of which the second is right of the first, live so for one tick. */
    private static int births(int heading, int otherHeading, int[] code, int[] otherCode) {
        CreaturePond pond = new CreaturePond(5, 5);
        put(pond, 2, 2, heading, 100, code);
        put(pond, 3, 2, otherHeading, 100, otherCode);
        pond.tick(1);
        return pond.total(BIRTHS);
    }

    private void bothAsked() {
        check.part("Tick: each pair of animals that both ASKED");
        int[] ask = {ASK};
        int[] silent = {TURN, 0};
        check.due("both", births(1, 3, ask, ask), 1);
        check.due("the first", births(1, 3, ask, silent), 0);
        check.due("the second", births(1, 3, silent, ask), 0);
        check.due("none", births(1, 3, silent, silent), 0);
        check.due("without code", births(1, 3, ask, new int[0]), 0);
    }

    private void inThisTick() {
        check.part("Tick: both ASKED in this tick");
        CreaturePond pond = new CreaturePond(5, 5);
        put(pond, 2, 2, 1, 300, ASK, TURN, 0, TURN, 0, ASK);
        put(pond, 3, 2, 3, 300, TURN, 0, ASK, TURN, 0, ASK);
        pond.tick(3);
        check.due("one in a tick, the other in the next", pond.total(BIRTHS), 0);
        pond.tick(1);
        check.due("both in one", pond.total(BIRTHS), 1);
    }

    private void eachAheadOfTheOther() {
        check.part("Tick: each of which is ahead of the other");
        int[] ask = {ASK};
        for (int i = 0; i < 16; i++) {
            int heading = i / 4;
            int other = i % 4;
            check.due("headings " + heading + " and " + other, births(heading, other, ask, ask),
                    heading == 1 && other == 3 ? 1 : 0);
            CreaturePond below = new CreaturePond(5, 5);
            put(below, 2, 2, heading, 100, ASK);
            put(below, 2, 3, other, 100, ASK);
            below.tick(1);
            check.due("one below, headings " + heading + " and " + other, below.total(BIRTHS),
                    heading == 2 && other == 0 ? 1 : 0);
        }
        CreaturePond far = new CreaturePond(5, 5);
        put(far, 1, 1, 1, 100, ASK);
        put(far, 3, 1, 3, 100, ASK);
        far.tick(1);
        check.due("a cell between them", far.total(BIRTHS), 0);
        CreaturePond three = new CreaturePond(5, 5);
        put(three, 1, 1, 1, 100, ASK);
        put(three, 2, 1, 1, 100, ASK);
        put(three, 3, 1, 3, 100, ASK);
        three.tick(1);
        check.due("two of three", three.total(BIRTHS) + " " + three.field(3, 15) + " " + three.field(3, 16), "1 1 2");
    }

    private void byTheLesserNumber() {
        check.part("Tick: by the lesser number");
        // The pairs are 0 with 3 and 1 with 2; the numbers of the children and of the STREAM tell which came first.
        CreaturePond pond = new CreaturePond(10, 5);
        int stream = 77;
        pond.set(0, stream);
        put(pond, 1, 1, 1, 100, ASK, 1, 1, 1, 1, 1, 1, 1);
        put(pond, 5, 1, 1, 200, ASK, 2, 2, 2, 2, 2, 2, 2);
        put(pond, 6, 1, 3, 200, ASK, 3, 3, 3, 3, 3, 3, 3);
        put(pond, 2, 1, 3, 100, ASK, 4, 4, 4, 4, 4, 4, 4);
        check.due("two births", pond.tick(1), 6);
        check.due("the first", pond.field(4, 15) + " " + pond.field(4, 16) + " " + pond.cell(1, 0, 2), "0 3 4");
        check.due("the second", pond.field(5, 15) + " " + pond.field(5, 16) + " " + pond.cell(5, 0, 2), "1 2 5");
        CreaturePond alone = new CreaturePond(10, 5);
        alone.set(0, stream);
        put(alone, 1, 1, 1, 100, ASK, 1, 1, 1, 1, 1, 1, 1);
        put(alone, 2, 1, 3, 100, ASK, 4, 4, 4, 4, 4, 4, 4);
        alone.tick(1);
        check.due("the first takes the first numbers", Told.code(pond, 4), Told.code(alone, 2));
    }

    private void atLeast40() {
        check.part("Tick: if both have at least 40 energy");
        check.due("40 and 40", pair(9, 41, 41).tick(1), 3);
        check.due("39 and 40", pair(9, 40, 41).tick(1), 2);
        check.due("40 and 39", pair(9, 41, 40).tick(1), 2);
        check.due("39 and 39", pair(9, 40, 40).tick(1), 2);
        check.due("39 and 999", pair(9, 40, 1000).tick(1), 2);
        check.due("999 and 39", pair(9, 1000, 40).tick(1), 2);
        CreaturePond poor = pair(9, 40, 41);
        poor.tick(1);
        check.due("nothing else happens", poor.field(0, ENERGY) + " " + poor.field(1, ENERGY) + " " + poor.total(STORE)
                + " " + poor.total(STREAM), "39 40 2 9");
    }

    private void energyAtBreeding() {
        check.part("Tick: if both have at least 40 energy, when all have acted");
        CreaturePond given = pair(9, 40, 41);
        put(given, 1, 2, 0, 50, GIVE, 1);
        given.tick(1);
        check.due("39 and a gift of 1", given.total(BIRTHS), 1);
        CreaturePond none = pair(9, 39, 41);
        put(none, 1, 2, 0, 50, GIVE, 1);
        none.tick(1);
        check.due("38 and a gift of 1", none.total(BIRTHS), 0);
    }

    private void cellWithoutAnimal() {
        check.part("Tick: of the cells around (in the order of headings) one has no animal");
        for (int i = 0; i < 64; i++) {
            int heading = i / 16;
            int taken = i % 16 | 1 << heading;
            CreaturePond pond = new CreaturePond(5, 5);
            put(pond, 2, 2, heading, 100, ASK);
            put(pond, 2 + RIGHT[heading], 2 + DOWN[heading], heading ^ 2, 100, ASK);
            for (int near = 0; near < 4; near++) {
                if (near != heading && (taken >> near & 1) == 1) {
                    pond.animal(2 + RIGHT[near], 2 + DOWN[near], 0, 2);
                }
            }
            int child = pond.total(4);
            pond.tick(1);
            int free = Integer.numberOfTrailingZeros(~taken);
            check.due("taken " + Integer.toBinaryString(taken), pond.total(BIRTHS), free < 4 ? 1 : 0);
            check.due("nothing paid but 1 and 10", pond.total(STORE), child + (free < 4 ? 20 : 0));
            if (free < 4) {
                check.due("where, by " + Integer.toBinaryString(taken),
                        pond.cell(2 + RIGHT[free], 2 + DOWN[free], 2), child);
                check.due("its heading", pond.field(child, HEADING), heading);
            }
        }
    }

    private void aroundTheLesser() {
        check.part("Tick: the cells around the one with the lesser number");
        for (int lesser = 0; lesser < 2; lesser++) {
            CreaturePond pond = new CreaturePond(5, 5);
            put(pond, lesser == 0 ? 1 : 2, 1, lesser == 0 ? 1 : 3, 100, ASK);
            put(pond, lesser == 0 ? 2 : 1, 1, lesser == 0 ? 3 : 1, 100, ASK);
            pond.animal(1, 0, 0, 50);
            pond.animal(1, 2, 0, 50);
            pond.animal(0, 1, 0, 50);
            pond.tick(1);
            // All cells around 1, 1 are taken, those around 2, 1 are not.
            check.due("the lesser is " + (lesser == 0 ? "shut in" : "free"), pond.total(BIRTHS), lesser);
            check.due("above the lesser", pond.cell(2, 0, 2), lesser == 0 ? -1 : 5);
        }
    }

    /** A pond in which 0 and 1 face each other and ask, so many live, and the others do nothing. */
    private static CreaturePond crowd(int animals) {
        CreaturePond pond = new CreaturePond(10, 10);
        put(pond, 0, 0, 1, 200, ASK);
        put(pond, 1, 0, 3, 200, ASK);
        for (int i = 2; i < animals; i++) {
            pond.animal(i % 8, 3 + i / 8, 0, 100);
        }
        return pond;
    }

    private void fewerThan16() {
        check.part("Tick: if fewer than 16 live");
        check.due("14", crowd(14).tick(1), 15);
        check.due("15", crowd(15).tick(1), 16);
        CreaturePond full = crowd(16);
        full.set(0, 9);
        check.due("16", full.tick(1), 16);
        check.due("no birth, no price, no number", full.total(BIRTHS) + " " + full.total(STORE) + " "
                + full.total(STREAM) + " " + full.field(0, ENERGY) + " " + full.cell(0, 9, 2), "0 16 9 199 -1");
        CreaturePond last = crowd(15);
        last.tick(1);
        check.due("the 16th", last.field(15, 15) + " " + last.cell(0, 9, 2), "0 15");
        check.due("then no more", last.tick(1) + " " + last.total(BIRTHS), "16 1");
    }

    private void fewerThan16ForTwoPairs() {
        check.part("Tick: if fewer than 16 live, for two pairs");
        for (int animals = 14; animals <= 16; animals++) {
            CreaturePond pond = new CreaturePond(10, 10);
            put(pond, 0, 0, 1, 200, ASK);
            put(pond, 4, 0, 1, 200, ASK);
            put(pond, 5, 0, 3, 200, ASK);
            put(pond, 1, 0, 3, 200, ASK);
            for (int i = 4; i < animals; i++) {
                pond.animal(i % 8, 3 + i / 8, 0, 100);
            }
            pond.tick(1);
            check.due("births among " + animals, pond.total(BIRTHS), 16 - animals);
            check.due("the first pair's among " + animals, pond.cell(0, 9, 2), animals < 16 ? animals : -1);
            check.due("the second pair's among " + animals, pond.cell(4, 9, 2), animals < 15 ? 15 : -1);
        }
    }

    private void roundedDown() {
        check.part("Tick: each parent pays 10, and then gives half of what it has (rounded down) to the child");
        for (int energy = 40; energy < 46; energy++) {
            for (int other = 40; other < 46; other++) {
                CreaturePond pond = pair(9, energy + 1, other + 1);
                pond.tick(1);
                int half = (energy - 10) / 2;
                int otherHalf = (other - 10) / 2;
                check.due("of " + energy + " and " + other, pond.field(0, ENERGY) + " " + pond.field(1, ENERGY) + " "
                        + pond.field(2, ENERGY) + " " + pond.total(STORE),
                        energy - 10 - half + " " + (other - 10 - otherHalf) + " " + (half + otherHalf) + " 22");
            }
        }
        CreaturePond odd = pair(9, 42, 42);
        odd.tick(1);
        check.due("41 and 41", odd.field(0, ENERGY) + " " + odd.field(1, ENERGY) + " " + odd.field(2, ENERGY),
                "16 16 30");
    }

    /** A pond after a tick in which 0 and 1 had a child, 2, that stands at 1, 0, heads right, and will ask. */
    private static CreaturePond withChild() {
        CreaturePond pond = pair(streamFor(1, 1, 0, 0, false), 1000, 1000);
        pond.tick(1);
        return pond;
    }

    private void generation() {
        check.part("Tick: its generation 1 more than the greater of theirs");
        CreaturePond pond = withChild();
        check.due("of 0 and 0", pond.field(0, 17) + " " + pond.field(1, 17) + " " + pond.field(2, 17), "0 0 1");
        pond.set(0, streamFor(1, 1, 0, 0, false));
        put(pond, 2, 0, 3, 500, ASK);
        // 0 and 1 have no more place around 0, when one stands on each side.
        pond.animal(1, 2, 0, 50);
        pond.animal(0, 1, 0, 50);
        pond.tick(1);
        check.due("of 1 and 0", pond.field(6, 15) + " " + pond.field(6, 16) + " " + pond.field(6, 17), "2 3 2");

        CreaturePond other = new CreaturePond(6, 6);
        put(other, 5, 5, 0, 1);
        put(other, 1, 1, 1, 1000, ASK);
        put(other, 2, 1, 3, 1000, ASK);
        put(other, 5, 4, 0, 2);
        other.set(0, streamFor(1, 1, 0, 0, false));
        other.tick(2);
        // 4 and then 0 are children, at 1, 0 and 1, 2; a new one gets 3, faces 4 and is the lesser of that pair.
        check.due("children", other.field(4, 17) + " " + other.field(0, 17) + " " + other.cell(1, 0, 2), "1 1 4");
        check.due("a new one", put(other, 2, 0, 3, 500, ASK), 3);
        other.set(0, streamFor(1, 1, 0, 0, false));
        other.animal(0, 1, 0, 50);
        other.tick(1);
        int child = other.cell(2, 5, 2);
        check.due("of 0 and 1", other.field(child, 15) + " " + other.field(child, 16) + " " + other.field(child, 17),
                "3 4 2");
    }

    private void childIsNew() {
        check.part("Tick: registers, memory 0, age 0, place 0");
        // The number of the child had another one before, that used all that an animal has.
        CreaturePond pond = new CreaturePond(5, 5);
        put(pond, 1, 1, 1, 300, TURN, 0, TURN, 0, TURN, 0, ASK);
        put(pond, 2, 1, 3, 300, TURN, 0, TURN, 0, TURN, 0, ASK);
        put(pond, 4, 4, 0, 3, 1, 7, 6, 10, 7, 0, 1, 0, 15, 10, 7, 0, ASK, 0);
        pond.tick(1);
        check.due("the other one", pond.field(2, 0) + " " + pond.field(2, 7) + " " + pond.inner(2, false, 0) + " "
                + pond.inner(2, false, 15) + " " + pond.field(2, PLACE), "15 6 6 6 13");
        pond.tick(1);
        pond.tick(2);
        check.due("the child has its number", pond.field(2, 15) + " " + pond.field(2, 16), "0 1");
        for (int w = 0; w < 8; w++) {
            check.due("register " + w, pond.field(2, w), 0);
        }
        emptyMemory(pond, 2);
        check.due("age and place", pond.field(2, AGE) + " " + pond.field(2, PLACE), "0 0");
    }

    /** The code of the child of ASK 1 2 3 .. and ASK 51 52 53 .., of these lengths, with a STREAM. */
    private static String childCode(int length, int otherLength, int stream) {
        CreaturePond pond = pair(stream, 100, 100);
        for (int i = 1; i < length; i++) {
            pond.code(0, 1, i);
        }
        for (int i = 1; i < otherLength; i++) {
            pond.code(1, 1, 50 + i);
        }
        pond.tick(1);
        return Told.code(pond, 2);
    }

    /** The code of a child whose parents' codes have these lengths and are cut at these places. */
    private void child(String what, int length, int otherLength, int from, int to, String due) {
        check.due(what, childCode(length, otherLength, streamFor(1, length, from, to, false)), due);
    }

    private void cutAt() {
        check.part("Tick: i = a % (the first one's length + 1), j = i + b % 8");
        child("i 0, j i", 9, 9, 0, 0, "21 1 2 3 4 5 6 7 8");
        child("i 0, j i + 1", 9, 9, 0, 1, "21 1 2 3 4 5 6 7 8");
        child("i 0, j i + 7", 9, 9, 0, 7, "21 51 52 53 54 55 56 7 8");
        child("i 1, j i", 9, 9, 1, 1, "21 1 2 3 4 5 6 7 8");
        child("i 1, j i + 1", 9, 9, 1, 2, "21 51 2 3 4 5 6 7 8");
        child("i 1, j i + 7", 9, 9, 1, 8, "21 51 52 53 54 55 56 57 8");
        child("i 8, the last byte", 9, 9, 8, 9, "21 1 2 3 4 5 6 7 58");
        child("i 9, the length", 9, 9, 9, 16, "21 1 2 3 4 5 6 7 8");
        child("i 9, the other is longer", 9, 11, 9, 11, "21 1 2 3 4 5 6 7 8 59 60");
        // i goes up to the first one's length, not the second one's.
        for (int a = 0; a < 12; a++) {
            int stream = a << 16;
            int i = a % 4;
            int j = i + streamNumber(stream, 1) % 8;
            boolean changed = streamNumber(stream, 2) % 4 == 0;
            if (!changed) {
                StringBuilder due = new StringBuilder("21");
                for (int k = 1; k < Math.max(3, Math.min(j, 20)); k++) {
                    due.append(' ').append(k >= i && k < j ? 50 + k : k);
                }
                check.due("a is " + a, childCode(3, 20, stream), due.toString());
            }
        }
    }

    private void asFarAsItHasThem() {
        check.part("Tick: the second one's from i to j - 1 (as far as it has them), the first one's from j on");
        child("it has all", 9, 5, 2, 5, "21 1 52 53 54 5 6 7 8");
        child("it has all but one", 9, 4, 2, 5, "21 1 52 53 5 6 7 8");
        child("it has one", 9, 3, 2, 5, "21 1 52 5 6 7 8");
        child("it has none", 9, 2, 2, 5, "21 1 5 6 7 8");
        child("it ends before i", 9, 1, 2, 5, "21 1 5 6 7 8");
        child("the first ends at j", 5, 9, 2, 5, "21 1 52 53 54");
        child("the first ends behind j", 6, 9, 2, 5, "21 1 52 53 54 5");
        child("the first ends before j", 4, 9, 2, 5, "21 1 52 53 54");
        child("both end before j", 4, 4, 2, 9, "21 1 52 53");
    }

    private void oneInFour() {
        check.part("Tick: if the next number c % 4 is 0");
        boolean[] seen = new boolean[4];
        for (int stream = 0; stream < 100; stream++) {
            int c = streamNumber(stream, 2);
            CreaturePond pond = pair(stream, 100, 100);
            pond.tick(1);
            seen[c % 4] = true;
            check.due("c % 4 is " + c % 4, pond.total(STREAM), streamAfter(stream, c % 4 == 0 ? 5 : 3));
            check.due("the byte then", pond.inner(2, true, 0), (byte) (c % 4 == 0 ? streamNumber(stream, 4) : ASK));
        }
        check.due("0, 1, 2 and 3", seen[0] && seen[1] && seen[2] && seen[3], true);
    }

    private void changedByte() {
        check.part("Tick: byte number d % its length becomes e");
        boolean[] seen = new boolean[20];
        for (int stream = 0; stream < 60000000; stream += 65521) {
            if (streamNumber(stream, 2) % 4 == 0 && !seen[streamNumber(stream, 3) % 20]) {
                int at = streamNumber(stream, 3) % 20;
                seen[at] = true;
                String[] code = childCode(20, 20, stream).split(" ");
                check.due("byte " + at, code[at], Byte.toString((byte) streamNumber(stream, 4)));
                check.due("length", code.length, 20);
                for (int i = 1; i < 20; i++) {
                    check.due("byte " + i + " is not changed", i == at || code[i].equals("" + i)
                            || code[i].equals("" + (50 + i)), true);
                }
            }
        }
        for (int at = 0; at < 20; at++) {
            check.due("a change of byte " + at, seen[at], true);
        }
    }

    private void itHasBytes() {
        check.part("Tick: and it has bytes");
        // Who asks has code, so that a child has one byte at the least: here from the first or from the second one.
        for (int from = 0; from < 2; from++) {
            for (int cut = 0; cut < 8; cut++) {
                int stream = streamFor(1, 1, from, from + cut, true);
                CreaturePond pond = pair(stream, 100, 100);
                pond.tick(1);
                check.due("one byte, changed", Told.code(pond, 2), Byte.toString((byte) streamNumber(stream, 4)));
                check.due("five numbers are taken", pond.total(STREAM), streamAfter(stream, 5));
            }
        }
    }

    private void childDoesNotAct() {
        check.part("Tick: A child does not act in the tick");
        CreaturePond pond = withChild();
        check.due("new", pond.field(2, AGE) + " " + pond.field(2, ASKED) + " " + pond.field(2, ENERGY), "0 0 988");
        check.due("STORE", pond.total(STORE), 2 + 20);
        pond.tick(1);
        check.due("in the next it does", pond.field(2, AGE) + " " + pond.field(2, ASKED) + " " + pond.field(2, ENERGY),
                "1 1 987");
    }

    private void childCanNotBreed() {
        check.part("Tick: it can not breed either");
        CreaturePond pond = pair(streamFor(1, 1, 0, 0, false), 1000, 1000);
        put(pond, 2, 0, 3, 500, ASK);
        pond.tick(1);
        check.due("a child that faces one that asks", pond.cell(1, 0, 2) + " " + pond.field(3, HEADING) + " "
                + Told.code(pond, 3), "3 1 21");
        check.due("one birth", pond.total(BIRTHS), 1);
        pond.tick(1);
        boolean bred = false;
        for (int number = 4; number < 16; number++) {
            bred |= pond.field(number, 15) == 2 && pond.field(number, 16) == 3;
        }
        check.due("it can in the next", bred, true);
    }

    private void childOfADeadOnesNumber() {
        check.part("Tick: it can not breed either, with a number of one that asked last");
        CreaturePond pond = new CreaturePond(5, 5);
        pond.animal(4, 4, 0, 1);
        pond.animal(4, 3, 0, 1);
        put(pond, 3, 3, 0, 1000, ASK);
        pond.tick(1);
        pass(pond, 198);
        put(pond, 1, 1, 1, 1000, TURN, 0, ASK);
        put(pond, 2, 1, 3, 1000, TURN, 0, ASK);
        put(pond, 2, 0, 3, 1000, TURN, 0, ASK);
        check.due("the one that asks is old", pond.field(2, AGE) + " " + pond.field(2, ASKED), "199 1");
        pond.tick(1);
        check.due("it is no more", pond.field(2, AGE), -1);
        pond.set(0, streamFor(1, 3, 0, 0, false));
        pond.tick(1);
        check.due("the child has its number", pond.cell(1, 0, 2) + " " + pond.field(2, 15) + " " + pond.field(2, 16),
                "2 0 1");
        check.due("it did not ask", pond.field(2, ASKED), 0);
        check.due("one birth", pond.total(BIRTHS), 1);
    }

    private void withoutEnergy() {
        check.part("Tick: DEATH: an animal without energy");
        CreaturePond pond = new CreaturePond(3, 3);
        pond.animal(0, 0, 0, 1);
        pond.animal(1, 0, 0, 2);
        check.due("0 and 1", pond.tick(1), 1);
        check.due("who", pond.field(0, ENERGY) + " " + pond.field(1, ENERGY) + " " + pond.total(DEATHS), "-1 1 1");
        check.due("0", pond.tick(1) + " " + pond.total(DEATHS), "0 2");
        check.due("no grain", pond.total(1) + " " + pond.total(STORE), "0 3");
    }

    private void age200() {
        check.part("Tick: DEATH: or whose age is 200");
        CreaturePond pond = new CreaturePond(3, 3);
        pond.animal(0, 0, 0, 1000);
        pond.tick(1);
        pond.animal(1, 0, 0, 1000);
        pass(pond, 198);
        check.due("199 and 198", pond.field(0, AGE) + " " + pond.field(1, AGE) + " " + pond.total(DEATHS), "199 198 0");
        check.due("200 and 199", pond.tick(1) + " " + pond.field(0, AGE) + " " + pond.field(1, AGE), "1 -1 199");
        check.due("200", pond.tick(1) + " " + pond.total(DEATHS), "0 2");
        CreaturePond whole = new CreaturePond(3, 3);
        whole.animal(0, 0, 0, 200);
        pass(whole, 199);
        check.due("1 left at 199", whole.field(0, ENERGY), 1);
        whole.tick(1);
        check.due("none left at 200", whole.total(1) + " " + whole.total(STORE) + " " + whole.total(DEATHS), "0 200 1");
    }

    private void oldOnesBreed() {
        check.part("Tick: BREEDING is before DEATH");
        CreaturePond late = new CreaturePond(4, 5);
        put(late, 1, 1, 1, 1000);
        put(late, 2, 1, 3, 1000);
        pass(late, 199);
        late.code(0, 1, ASK);
        late.code(1, 1, ASK);
        check.due("they have a child in their last tick", late.tick(1) + " " + late.total(BIRTHS) + " "
                + late.total(DEATHS), "1 1 2");
        check.due("its parents", late.field(2, 15) + " " + late.field(2, 16), "0 1");
        // 800 left of each, 10 paid, half given: 395, of which 250 become grain.
        check.due("what they leave", late.cell(1, 1, 0) + " " + late.cell(2, 1, 0) + " " + late.field(2, ENERGY) + " "
                + late.total(STORE), "250 250 790 " + (400 + 20 + 145 + 145));
        CreaturePond marking = new CreaturePond(3, 3);
        put(marking, 1, 1, 0, 1000);
        pass(marking, 199);
        marking.code(0, 5, 0x0100091400L);
        marking.tick(1);
        check.due("it acts in its last tick", marking.cell(1, 1, 1) + " " + marking.total(4), "9 0");
    }

    private void isNoMore() {
        check.part("Tick: is no more");
        CreaturePond pond = new CreaturePond(3, 3);
        put(pond, 0, 0, 0, 1, ASK);
        pond.animal(1, 0, 0, 50);
        pond.tick(1);
        check.due("its cell", pond.cell(0, 0, 2), -1);
        check.due("its fields", pond.field(0, 0) + " " + pond.field(0, AGE) + " " + pond.field(0, 17), "-1 -1 -1");
        check.throwing("its memory", INDEX, () -> pond.inner(0, false, 0));
        check.throwing("its code", INDEX, () -> pond.inner(0, true, 0));
        check.throwing("more code", ARGUMENT, () -> pond.code(0, 1, 1));
        check.due("how many", pond.total(4) + " " + pond.total(0), "1 49");
        check.due("its cell is free", pond.animal(0, 0, 0, 9), 0);
    }

    private void above250() {
        check.part("Tick: its energy becomes grain of its cell, what would be above 250 goes to the STORE");
        for (int grain : new int[] {0, 1, 149, 150, 151, 249, 250}) {
            CreaturePond pond = new CreaturePond(3, 3);
            pond.animal(1, 1, 0, 300);
            pond.grain(1, 1, grain);
            pass(pond, 200);
            int sum = grain + 100;
            int left = sum < 250 ? sum : 250;
            check.due("100 to " + grain, pond.cell(1, 1, 0) + " " + pond.total(STORE) + " " + pond.total(1),
                    left + " " + (200 + sum - left) + " " + left);
        }
        for (int energy : new int[] {449, 450, 451}) {
            CreaturePond pond = new CreaturePond(3, 3);
            pond.animal(1, 1, 0, energy);
            pass(pond, 200);
            int left = energy < 450 ? energy - 200 : 250;
            check.due(energy - 200 + " to none", pond.cell(1, 1, 0) + " " + pond.total(STORE),
                    left + " " + (energy - left));
        }
    }
}

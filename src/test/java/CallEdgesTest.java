import java.util.function.Function;
import java.util.function.Supplier;

/** The sentences of promises 1 to 14 that name a boundary, one test for each, and what refused calls leave. */
public final class CallEdgesTest extends Ponds {
    private static final int MIN = Integer.MIN_VALUE;
    private static final int MAX = Integer.MAX_VALUE;
    private static final int NONE = CreaturePond.NONE;

    public static void main(String[] args) {
        CallEdgesTest test = new CallEdgesTest();
        test.check.each(
                test::sizes, test::newObject, test::set, test::store, test::storeToTheLimit, test::grain,
                test::animalArguments, test::animalInAFullCell, test::newInAUsedNumber, test::sixteenAnimals,
                test::codeArguments, test::codeOfNone, test::codeBytes, test::codeBeyond20, test::tick, test::cell,
                test::field, test::fieldOfNone, test::memory, test::code, test::innerOfNone, test::total,
                test::keepInPlace, test::differOfNothing, test::differFirstAndLast, test::differInEach,
                test::differInNothingElse, test::backOfNothing, test::staysKept, test::allIsAsItWas, test::refused,
                test::refusedWithNothingKept, test::refusedWhenFull, test::refusedAtTheLimit);
        test.check.end();
    }

    private void sizes() {
        check.part("1: at least 3 and at most 10 each way");
        int[] asked = {MIN, -10, -3, -1, 0, 1, 2, 3, 4, 9, 10, 11, 12, 100, MAX};
        for (int w : asked) {
            for (int h : asked) {
                CreaturePond pond = new CreaturePond(w, h);
                int width = w < 3 ? 3 : w > 10 ? 10 : w;
                int height = h < 3 ? 3 : h > 10 ? 10 : h;
                pond.grain(width - 1, 0, 1);
                pond.grain(0, height - 1, 2);
                pond.grain(width, height, 4);
                check.due(w + " by " + h + ": the last column", pond.cell(-1, 0, 0), 1);
                check.due(w + " by " + h + ": the last row", pond.cell(0, -1, 0), 2);
                check.due(w + " by " + h + ": the first cell", pond.cell(0, 0, 0), 4);
                check.due(w + " by " + h + ": three cells", pond.total(1), 7);
                pond.set(1, 0);
                pond.store(200);
                pass(pond, width * height - 1);
                check.due(w + " by " + h + ": the last cell", pond.total(SUNS_TURN), width * height - 1);
                pond.tick(1);
                check.due(w + " by " + h + ": behind the last cell", pond.total(SUNS_TURN), 0);
            }
        }
    }

    private void newObject() {
        check.part("1: no grain, no marks, no animals, STORE, SUN and STREAM 0, nothing kept");
        for (int side : new int[] {3, 10}) {
            CreaturePond pond = new CreaturePond(side, side);
            for (int i = 0; i < side * side; i++) {
                check.due("cell " + i, pond.cell(i % side, i / side, 0) + " " + pond.cell(i % side, i / side, 1) + " "
                        + pond.cell(i % side, i / side, 2), "0 0 -1");
            }
            for (int which = 0; which < 10; which++) {
                check.due("total " + which, pond.total(which), 0);
            }
            for (int number = 0; number < 16; number++) {
                check.due("animal " + number, pond.field(number, ENERGY), NONE);
            }
            check.due("nothing kept", pond.back(), false);
            check.throwing("nothing kept", STATE, pond::differ);
            pond.store(100);
            pond.tick(50);
            check.due("SUN 0", pond.total(1) + " " + pond.total(STORE), "0 100");
        }
    }

    private void set() {
        check.part("2: false if sun is not 0 .. 50");
        CreaturePond pond = new CreaturePond(3, 3);
        int stream = 1;
        for (int sun : new int[] {0, 1, 49, 50}) {
            check.due("SUN " + sun, pond.set(sun, ++stream) + " " + pond.total(STREAM), "true " + stream);
        }
        for (int sun : new int[] {-1, 51, MIN, MAX}) {
            check.due("SUN " + sun, pond.set(sun, 9) + " " + pond.total(STREAM), "false " + stream);
        }
        for (int any : new int[] {0, -1, MIN, MAX}) {
            check.due("STREAM " + any, pond.set(50, any) + " " + pond.total(STREAM), "true " + any);
        }
    }

    private void store() {
        check.part("3: n, 0 .. 10000; false for any other n");
        CreaturePond pond = new CreaturePond(3, 3);
        check.due("0", pond.store(0) + " " + pond.total(STORE), "true 0");
        check.due("1", pond.store(1) + " " + pond.total(STORE), "true 1");
        check.due("-1", pond.store(-1) + " " + pond.total(STORE), "false 1");
        check.due("9999", pond.store(9999) + " " + pond.total(STORE), "true 10000");
        check.due("10000", pond.store(10000) + " " + pond.total(STORE), "true 20000");
        check.due("10001", pond.store(10001) + " " + pond.total(STORE), "false 20000");
        check.due("MIN", pond.store(MIN) + " " + pond.total(STORE), "false 20000");
        check.due("MAX", pond.store(MAX) + " " + pond.total(STORE), "false 20000");
    }

    /** A pond whose STORE holds so much less than 1000000. */
    private static CreaturePond stored(int less) {
        CreaturePond pond = new CreaturePond(3, 3);
        for (int i = 0; i < 99; i++) {
            pond.store(10000);
        }
        pond.store(10000 - less);
        return pond;
    }

    private void storeToTheLimit() {
        check.part("3: or if it would be above 1000000");
        for (int less : new int[] {0, 1, 2, 9999, 10000}) {
            CreaturePond pond = stored(less);
            check.due(less + " less and 1 more", pond.store(less + 1) + " " + pond.total(STORE),
                    "false " + (1000000 - less));
            check.due(less + " less", pond.store(less) + " " + pond.total(STORE), "true 1000000");
            check.due("1 more then", pond.store(1) + " " + pond.total(STORE), "false 1000000");
            check.due("10000 more then", pond.store(10000) + " " + pond.total(STORE), "false 1000000");
            check.due("0 then", pond.store(0) + " " + pond.total(STORE), "true 1000000");
        }
    }

    private void grain() {
        check.part("4: false if g is not 0 .. 250");
        CreaturePond pond = new CreaturePond(3, 3);
        for (int g : new int[] {250, 249, 1, 0}) {
            check.due("" + g, pond.grain(2, 2, g) + " " + pond.cell(2, 2, 0), "true " + g);
        }
        pond.grain(2, 2, 9);
        for (int g : new int[] {251, -1, MIN, MAX, 256}) {
            check.due("" + g, pond.grain(2, 2, g) + " " + pond.cell(2, 2, 0), "false 9");
        }
        check.due("in one cell alone", pond.total(1), 9);
    }

    private void animalArguments() {
        check.part("5: IllegalArgumentException if heading is not 0 .. 3 or energy not 1 .. 1000");
        CreaturePond pond = new CreaturePond(5, 5);
        int[] bad = {-1, 4, MIN, MAX};
        for (int heading : bad) {
            check.throwing("heading " + heading, ARGUMENT, () -> pond.animal(0, 0, heading, 9));
        }
        for (int energy : new int[] {0, 1001, -1, MIN, MAX}) {
            check.throwing("energy " + energy, ARGUMENT, () -> pond.animal(0, 0, 0, energy));
        }
        check.due("none of them", pond.total(4) + " " + pond.cell(0, 0, 2), "0 -1");
        for (int heading = 0; heading < 4; heading++) {
            check.due("heading " + heading, pond.animal(heading, 0, heading, 9), heading);
            check.due("heading " + heading, pond.field(heading, HEADING), heading);
        }
        int number = 4;
        for (int energy : new int[] {1, 2, 999, 1000}) {
            check.due("energy " + energy, pond.animal(number - 4, 1, 0, energy), number);
            check.due("energy " + energy, pond.field(number++, ENERGY), energy);
        }
    }

    private void animalInAFullCell() {
        check.part("5: IllegalStateException if there is an animal in the cell");
        CreaturePond pond = new CreaturePond(4, 5);
        pond.animal(3, 4, 0, 2);
        for (int[] cell : new int[][] {{3, 4}, {-1, 4}, {3, -1}, {7, 9}}) {
            check.throwing("in the cell", STATE, () -> pond.animal(cell[0], cell[1], 0, 9));
        }
        for (int[] cell : new int[][] {{2, 4}, {0, 4}, {3, 3}, {3, 0}}) {
            check.due("beside it", pond.animal(cell[0], cell[1], 0, 9) > 0, true);
        }
        pond.tick(1);
        check.throwing("it lives still", STATE, () -> pond.animal(3, 4, 0, 9));
        pond.tick(1);
        check.due("when it is no more", pond.animal(3, 4, 0, 9), 0);
    }

    private void newInAUsedNumber() {
        check.part("5: No code, no parents, generation 0, when the number had another one");
        CreaturePond pond = new CreaturePond(5, 5);
        pond.set(0, streamFor(1, 14, 14, 14, false));
        pond.animal(4, 4, 0, 1);
        int[] code = {TURN, 0, ASK, 1, 7, 6, 10, 7, 0, 10, 7, 7, ASK, 0};
        put(pond, 1, 1, 1, 400, code);
        put(pond, 2, 1, 3, 400, code);
        pond.tick(2);
        check.due("a child with the number 0", pond.field(0, 15) + " " + pond.field(0, 17), "1 1");
        pass(pond, 199);
        check.due("it is old and uses all", pond.field(0, AGE) + " " + pond.field(0, 7) + " " + pond.inner(0, false, 0)
                + " " + pond.inner(0, false, 6), "199 6 6 6");
        // It asks in its last tick.
        pond.tick(1);
        check.due("a new one", pond.animal(3, 2, 2, 7), 0);
        fields(pond, 0, 0, 0, 0, 0, 0, 0, 0, 0, 3, 2, 2, 7, 0, 0, 0, NONE, NONE, 0, 0);
        emptyMemory(pond, 0);
        check.throwing("code", INDEX, () -> pond.inner(0, true, 0));
    }

    private void sixteenAnimals() {
        check.part("5: or there are 16");
        CreaturePond pond = new CreaturePond(10, 10);
        for (int i = 0; i < 15; i++) {
            pond.animal(i % 10, i / 10, 0, i == 7 ? 1 : 9);
        }
        check.due("the 16th", pond.animal(9, 8, 0, 9), 15);
        check.throwing("the 17th", STATE, () -> pond.animal(9, 9, 0, 9));
        check.due("16", pond.total(4) + " " + pond.cell(9, 9, 2), "16 -1");
        pond.tick(1);
        check.due("again the 16th", pond.animal(9, 9, 0, 9), 7);
        check.throwing("again the 17th", STATE, () -> pond.animal(8, 8, 0, 9));
    }

    private void codeArguments() {
        check.part("6: IllegalArgumentException if n is not 1 .. 8");
        CreaturePond pond = new CreaturePond(3, 3);
        pond.animal(0, 0, 0, 9);
        for (int n : new int[] {0, 9, -1, MIN, MAX}) {
            check.throwing("n " + n, ARGUMENT, () -> pond.code(0, n, 1));
        }
        check.due("none of them", pond.field(0, LENGTH), 0);
        check.due("n 1", pond.code(0, 1, 1), 1);
        check.due("n 8", pond.code(0, 8, 1), 9);
    }

    private void codeOfNone() {
        check.part("6: or there is no such animal");
        CreaturePond pond = new CreaturePond(5, 5);
        for (int i = 0; i < 16; i++) {
            pond.animal(i % 5, i / 5, 0, i == 7 ? 1 : 9);
        }
        check.due("0", pond.code(0, 1, 1), 1);
        check.due("15", pond.code(15, 1, 1), 1);
        check.due("7", pond.code(7, 1, 1), 1);
        for (int a : new int[] {-1, 16, MIN, MAX}) {
            check.throwing("animal " + a, ARGUMENT, () -> pond.code(a, 1, 1));
        }
        pond.tick(1);
        check.throwing("one that is no more", ARGUMENT, () -> pond.code(7, 1, 1));
        CreaturePond few = new CreaturePond(5, 5);
        few.animal(0, 0, 0, 9);
        check.throwing("one that is not yet", ARGUMENT, () -> few.code(1, 1, 1));
    }

    private void codeBytes() {
        check.part("6: The n lowest bytes of bytes, the highest of them first, go to the end");
        long bytes = 0x8101FF7F80027E03L;
        String[] all = {"-127", "1", "-1", "127", "-128", "2", "126", "3"};
        for (int n = 1; n <= 8; n++) {
            CreaturePond pond = new CreaturePond(3, 3);
            put(pond, 0, 0, 0, 9, 77);
            check.due("how many", pond.code(0, n, bytes), n + 1);
            StringBuilder due = new StringBuilder("77");
            for (int i = 8 - n; i < 8; i++) {
                due.append(' ').append(all[i]);
            }
            check.due(n + " bytes", Told.code(pond, 0), due.toString());
        }
    }

    private void codeBeyond20() {
        check.part("6: IllegalStateException if there would be more than 20");
        for (int n = 1; n <= 8; n++) {
            int bytes = n;
            CreaturePond pond = new CreaturePond(3, 3);
            pond.animal(0, 0, 0, 9);
            for (int i = n; i < 20; i++) {
                pond.code(0, 1, i);
            }
            pond.animal(1, 0, 0, 9);
            for (int i = n; i < 21; i++) {
                pond.code(1, 1, i);
            }
            check.due(n + " to 20", pond.code(0, n, -1), 20);
            check.throwing(n + " to 21", STATE, () -> pond.code(1, bytes, -1));
            check.due("its code as it was", pond.field(1, LENGTH) + " " + pond.inner(1, true, 20 - n), 21 - n + " 20");
            check.throwing("and that byte", INDEX, () -> pond.inner(1, true, 21 - bytes));
        }
    }

    private void tick() {
        check.part("7: n ticks, 0 .. 50; IllegalArgumentException for any other n");
        CreaturePond pond = new CreaturePond(3, 3);
        pond.animal(0, 0, 0, 60);
        check.due("0", pond.tick(0) + " " + pond.total(7) + " " + pond.field(0, AGE), "1 0 0");
        check.due("1", pond.tick(1) + " " + pond.total(7) + " " + pond.field(0, AGE), "1 1 1");
        check.due("50", pond.tick(50) + " " + pond.total(7) + " " + pond.field(0, AGE), "1 51 51");
        for (int n : new int[] {-1, 51, MIN, MAX}) {
            check.throwing("" + n, ARGUMENT, () -> pond.tick(n));
        }
        check.due("no more", pond.total(7) + " " + pond.field(0, AGE), "51 51");
        check.due("how many there are then", pond.tick(8) + " " + pond.tick(1) + " " + pond.tick(0), "1 0 0");
    }

    private void cell() {
        check.part("8: its animal, NONE without one. NONE for any other w");
        CreaturePond pond = new CreaturePond(3, 3);
        pond.grain(1, 2, 40);
        put(pond, 1, 2, 0, 50, 1, 0, 6, MARK, 0);
        pond.tick(1);
        check.due("0, 1, 2", pond.cell(1, 2, 0) + " " + pond.cell(1, 2, 1) + " " + pond.cell(1, 2, 2), "40 6 0");
        check.due("without one", pond.cell(2, 2, 2), NONE);
        for (int w : new int[] {-1, 3, MIN, MAX}) {
            check.due("w " + w, pond.cell(1, 2, w), NONE);
        }
    }

    private void field() {
        check.part("9: NONE if there is no such w");
        CreaturePond pond = new CreaturePond(4, 5);
        put(pond, 2, 3, 1, 60, 1, 0, 10, 1, 7, 17, ASK);
        pond.tick(1);
        fields(pond, 0, 10, 0, 0, 0, 0, 0, 0, 17, 2, 3, 1, 59, 1, 0, 7, NONE, NONE, 0, 1);
        for (int w : new int[] {-1, 19, MIN, MAX}) {
            check.due("w " + w, pond.field(0, w), NONE);
        }
    }

    private void fieldOfNone() {
        check.part("9: NONE if there is none such");
        CreaturePond pond = new CreaturePond(5, 5);
        for (int i = 0; i < 16; i++) {
            pond.animal(i % 5, i / 5, 0, i == 7 ? 1 : 9);
        }
        check.due("0, 7 and 15", pond.field(0, 11) + " " + pond.field(7, 11) + " " + pond.field(15, 11), "9 1 9");
        pond.tick(1);
        for (int a : new int[] {-1, 7, 16, MIN, MAX}) {
            for (int w = 0; w < 19; w++) {
                check.due("animal " + a + ", w " + w, pond.field(a, w), NONE);
            }
        }
    }

    private void memory() {
        check.part("10: Byte i of an animal's memory; IndexOutOfBoundsException if there is no such byte");
        CreaturePond pond = after(1, 0, 15, 1, 1, 9, 10, 1, 0, 1, 0, 0, 10, 1, 0, ASK);
        check.due("0", pond.inner(0, false, 0), (byte) 9);
        check.due("1", pond.inner(0, false, 1), (byte) 0);
        check.due("15", pond.inner(0, false, 15), (byte) 9);
        for (int i : new int[] {-1, 16, MIN, MAX}) {
            check.throwing("" + i, INDEX, () -> pond.inner(0, false, i));
        }
    }

    private void code() {
        check.part("10: or code; IndexOutOfBoundsException if there is no such byte");
        for (int length = 0; length <= 20; length++) {
            CreaturePond pond = new CreaturePond(3, 3);
            pond.animal(0, 0, 0, 9);
            for (int i = 0; i < length; i++) {
                pond.code(0, 1, 50 + i);
            }
            for (int i = 0; i < length; i++) {
                check.due(i + " of " + length, pond.inner(0, true, i), (byte) (50 + i));
            }
            for (int i : new int[] {-1, length, MIN, MAX}) {
                check.throwing(i + " of " + length, INDEX, () -> pond.inner(0, true, i));
            }
        }
    }

    private void innerOfNone() {
        check.part("10: IndexOutOfBoundsException if there is no such animal");
        CreaturePond pond = new CreaturePond(5, 5);
        for (int i = 0; i < 16; i++) {
            put(pond, i % 5, i / 5, 0, i == 7 ? 1 : 9, i);
        }
        check.due("0 and 15", pond.inner(0, true, 0) + " " + pond.inner(15, true, 0) + " " + pond.inner(15, false, 0),
                "0 15 0");
        pond.tick(1);
        for (int a : new int[] {-1, 7, 16, MIN, MAX}) {
            check.throwing("code of " + a, INDEX, () -> pond.inner(a, true, 0));
            check.throwing("memory of " + a, INDEX, () -> pond.inner(a, false, 0));
        }
    }

    private void total() {
        check.part("11: NONE for any other which");
        CreaturePond pond = pair(4, 100, 100);
        pond.set(3, 4);
        pond.store(50);
        pond.animal(0, 4, 0, 1);
        pond.grain(3, 3, 7);
        pond.tick(1);
        totals(pond, 178, 10, 70, 258, 3, 1, 1, 1, streamAfter(4, streamNumber(4, 2) % 4 == 0 ? 5 : 3), 3);
        for (int which : new int[] {-1, 10, MIN, MAX}) {
            check.due("which " + which, pond.total(which), NONE);
        }
    }

    private void keepInPlace() {
        check.part("12: in place of one that was");
        CreaturePond pond = new CreaturePond(3, 3);
        for (int i = 1; i <= 3; i++) {
            pond.grain(0, 0, i);
            pond.keep();
            check.due("nothing differs", pond.differ(), NONE);
            pond.grain(0, 0, 99);
            check.due("back", pond.back() + " " + pond.cell(0, 0, 0), "true " + i);
        }
        check.due("not to an earlier one", pond.back() + " " + pond.cell(0, 0, 0), "true 3");
        CreaturePond fewer = new CreaturePond(3, 3);
        put(fewer, 0, 0, 0, 1, 1, 2, 3);
        fewer.keep();
        fewer.tick(1);
        fewer.keep();
        fewer.animal(1, 1, 0, 9);
        fewer.back();
        check.due("nothing is left of the earlier one", fewer.total(4) + " " + fewer.cell(0, 0, 2), "0 -1");
    }

    private void differOfNothing() {
        check.part("13: NONE if none does. IllegalStateException if none is kept");
        CreaturePond pond = new CreaturePond(3, 3);
        check.throwing("none is kept", STATE, pond::differ);
        check.due("nor by back", pond.back(), false);
        check.throwing("still none is kept", STATE, pond::differ);
        pond.keep();
        check.due("none does", pond.differ(), NONE);
        pond.grain(1, 1, 1);
        check.due("one does", pond.differ(), 4);
        pond.grain(1, 1, 0);
        check.due("none does again", pond.differ(), NONE);
    }

    private void differFirstAndLast() {
        check.part("13: The first cell, x + y * W, in which the kept pond differs");
        for (int[] size : new int[][] {{3, 3}, {4, 3}, {3, 5}, {10, 10}}) {
            CreaturePond pond = new CreaturePond(size[0], size[1]);
            pond.keep();
            for (int i = size[0] * size[1] - 1; i >= 0; i--) {
                pond.grain(i % size[0], i / size[0], 1);
                check.due("cell " + i, pond.differ(), i);
            }
            pond.back();
            check.due("none", pond.differ(), NONE);
        }
    }

    /** A kept pond of 3 by 3 cells in which animals 0 and 1 will be no more after one tick. */
    private static CreaturePond keptBriefly() {
        CreaturePond pond = new CreaturePond(3, 3);
        pond.animal(1, 1, 2, 1);
        pond.animal(0, 2, 2, 1);
        pond.keep();
        pond.tick(1);
        return pond;
    }

    private void differInEach() {
        check.part("13: grain, mark, or animal: none, or its number, heading or energy");
        CreaturePond grain = new CreaturePond(3, 3);
        grain.grain(2, 1, 7);
        grain.keep();
        grain.grain(2, 1, 8);
        check.due("grain", grain.differ(), 5);
        grain.grain(2, 1, 7);
        check.due("the same grain", grain.differ(), NONE);

        check.due("none where one was", keptBriefly().differ(), 4);
        CreaturePond same = keptBriefly();
        same.animal(1, 1, 2, 1);
        check.due("one of two", same.differ(), 6);
        same.animal(0, 2, 2, 1);
        check.due("the same in all that counts", same.differ(), NONE);
        same.animal(0, 0, 0, 5);
        check.due("one where none was", same.differ(), 0);

        CreaturePond number = keptBriefly();
        number.animal(0, 2, 2, 1);
        number.animal(1, 1, 2, 1);
        check.due("its number", number.differ(), 4);
        CreaturePond heading = keptBriefly();
        heading.animal(1, 1, 3, 1);
        heading.animal(0, 2, 2, 1);
        check.due("its heading", heading.differ(), 4);
        CreaturePond energy = keptBriefly();
        energy.animal(1, 1, 2, 1);
        energy.animal(0, 2, 2, 2);
        check.due("its energy", energy.differ(), 6);

        CreaturePond mark = new CreaturePond(3, 3);
        put(mark, 2, 2, 0, 2, 1, 0, 5, MARK, 0);
        mark.keep();
        mark.tick(2);
        mark.animal(2, 2, 0, 2);
        check.due("its mark alone", mark.differ(), 8);
    }

    private void differInNothingElse() {
        check.part("13: in nothing else");
        CreaturePond pond = new CreaturePond(3, 3);
        pond.grain(0, 0, 250);
        pond.grain(1, 0, 250);
        put(pond, 1, 1, 2, 2, 1, 3, 9, 10, 3, 3, ASK);
        pond.set(1, 5);
        pond.store(1);
        pond.keep();
        pond.tick(2);
        check.due("it is no more, and the sun went on", pond.differ() + " " + pond.total(SUNS_TURN), "4 2");
        pond.animal(1, 1, 2, 2);
        pond.code(0, 2, 7);
        pond.store(9);
        pond.set(2, 6);
        check.due("code, age, registers, memory, STORE, SUN, STREAM, turn, ticks, deaths", pond.differ(), NONE);
    }

    private void backOfNothing() {
        check.part("14: false if nothing is kept");
        CreaturePond pond = new CreaturePond(3, 3);
        pond.grain(0, 0, 5);
        check.due("nothing kept", pond.back() + " " + pond.cell(0, 0, 0), "false 5");
        pond.keep();
        check.due("kept", pond.back() + " " + pond.cell(0, 0, 0), "true 5");
    }

    private void staysKept() {
        check.part("14: it stays kept");
        CreaturePond pond = new CreaturePond(3, 3);
        pond.grain(0, 0, 5);
        pond.animal(1, 1, 0, 50);
        pond.keep();
        for (int i = 0; i < 5; i++) {
            pond.grain(0, 0, 10 + i);
            pond.tick(i);
            check.due("it differs", pond.differ(), 0);
            check.due("back", pond.back() + " " + pond.cell(0, 0, 0) + " " + pond.field(0, ENERGY) + " "
                    + pond.differ(), "true 5 50 -1");
            check.due("back at once", pond.back() + " " + pond.cell(0, 0, 0), "true 5");
        }
    }

    /** A small pond of which all parts are in use: births, deaths, marks, memory, sun and stream. */
    private static CreaturePond busy() {
        CreaturePond pond = new CreaturePond(3, 3);
        pond.set(2, 1234567);
        pond.store(50);
        pond.grain(2, 2, 40);
        pond.animal(0, 0, 1, 100);
        pond.animal(1, 0, 3, 200);
        pond.animal(2, 2, 0, 1);
        pond.animal(1, 1, 2, 70);
        pond.code(0, 8, 0x0103070A03031516L);
        pond.code(1, 4, 0x01060915L);
        pond.code(3, 5, 0x0104E01404L);
        pond.tick(1);
        return pond;
    }

    /** The same, kept, and gone on since; of the numbers up to 5 only 2 is free, as its animal has died. */
    private static CreaturePond busyAndKept() {
        CreaturePond pond = busy();
        pond.keep();
        put(pond, 2, 2, 0, 1, 1, 2, 3);
        pond.tick(3);
        pond.grain(1, 2, 33);
        return pond;
    }

    /** Lets all die, and others live in their place, so that no part of the pond is left as it was. */
    private static void disturb(CreaturePond pond) {
        pond.set(7, 8);
        pass(pond, 250);
        put(pond, 2, 2, 0, 1);
        put(pond, 1, 2, 1, 900, 1, 0, 5, 10, 0, 0, 1, 6, 6, MARK, 0);
        put(pond, 0, 2, 1, 900, ASK);
        put(pond, 0, 0, 1, 900, TURN, 0, ASK);
        put(pond, 1, 0, 3, 900, TURN, 0, ASK);
        pond.tick(2);
    }

    private void allIsAsItWas() {
        check.part("14: All is as it was when it was kept");
        String due = Told.all(3, 3, CallEdgesTest::busy);
        Supplier<CreaturePond> taken = () -> {
            CreaturePond pond = busyAndKept();
            disturb(pond);
            pond.back();
            return pond;
        };
        check.dueText("at once", Told.all(3, 3, taken), due);
        check.dueText("later", told(taken, pond -> pond.tick(9)), told(CallEdgesTest::busy, pond -> pond.tick(9)));
        check.dueText("the SUN", told(taken, pond -> pond.store(1000) ? pond.tick(9) : -1),
                told(CallEdgesTest::busy, pond -> pond.store(1000) ? pond.tick(9) : -1));
        check.dueText("again", told(taken, pond -> pond.tick(9) + " " + pond.back()), due);
    }

    /** All that is told of a pond of 3 by 3 cells after a call. */
    private static String told(Supplier<CreaturePond> made, Function<CreaturePond, Object> call) {
        return told(3, 3, made, call);
    }

    private static String told(int w, int h, Supplier<CreaturePond> made, Function<CreaturePond, Object> call) {
        return Told.all(w, h, () -> {
            CreaturePond pond = made.get();
            answer(pond, call);
            return pond;
        });
    }

    private static Object answer(CreaturePond pond, Function<CreaturePond, Object> call) {
        try {
            return call.apply(pond);
        } catch (RuntimeException e) {
            return e.getClass();
        }
    }

    /** What the refused calls are tried on: a pond of w by h cells. */
    private Supplier<CreaturePond> made;
    private int w;
    private int h;

    private void on(int width, int height, Supplier<CreaturePond> maker) {
        made = maker;
        w = width;
        h = height;
    }

    /** The call answers as is due; the pond, what becomes of it, and the kept one are then as they were. */
    private void refuses(String name, Object due, Function<CreaturePond, Object> call) {
        check.due(name, answer(made.get(), call), due);
        same(name + ", the pond", call, pond -> 0);
        same(name + ", what becomes of it", call, pond -> pond.store(500) ? pond.tick(3) : pond.tick(3));
        same(name + ", the kept pond", call, CreaturePond::back);
        CreaturePond asked = made.get();
        answer(asked, call);
        check.due(name + ", what differs", answer(asked, CreaturePond::differ),
                answer(made.get(), CreaturePond::differ));
    }

    private void same(String name, Function<CreaturePond, Object> call, Function<CreaturePond, Object> then) {
        check.dueText(name, told(w, h, made, pond -> answer(pond, call) + " " + answer(pond, then)),
                told(w, h, made, then));
    }

    private void refused() {
        check.part("A call that answers false or NONE, or throws, changes nothing");
        on(3, 3, CallEdgesTest::busyAndKept);
        for (int bad : new int[] {MIN, -1, 51, MAX}) {
            refuses("set " + bad, false, pond -> pond.set(bad, 99));
            refuses("tick " + bad, ARGUMENT, pond -> pond.tick(bad));
        }
        for (int bad : new int[] {MIN, -1, 10001, MAX}) {
            refuses("store " + bad, false, pond -> pond.store(bad));
        }
        for (int bad : new int[] {MIN, -1, 251, MAX}) {
            refuses("grain " + bad, false, pond -> pond.grain(1, 2, bad));
        }
        for (int bad : new int[] {MIN, -1, 4, MAX}) {
            refuses("animal heading " + bad, ARGUMENT, pond -> pond.animal(2, 1, bad, 7));
        }
        for (int bad : new int[] {MIN, 0, 1001, MAX}) {
            refuses("animal energy " + bad, ARGUMENT, pond -> pond.animal(2, 1, 0, bad));
        }
        refuses("animal in a full cell", STATE, pond -> pond.animal(0, 0, 2, 7));
        for (int bad : new int[] {MIN, 0, 9, MAX}) {
            refuses("code n " + bad, ARGUMENT, pond -> pond.code(0, bad, -1));
        }
        for (int bad : new int[] {MIN, -1, 2, 6, 15, 16, MAX}) {
            refuses("code of " + bad, ARGUMENT, pond -> pond.code(bad, 1, -1));
            refuses("field of " + bad, NONE, pond -> pond.field(bad, ENERGY));
            refuses("code byte of " + bad, INDEX, pond -> pond.inner(bad, true, 0));
            refuses("memory byte of " + bad, INDEX, pond -> pond.inner(bad, false, 0));
        }
        for (int bad : new int[] {MIN, -1, 19, MAX}) {
            refuses("field " + bad, NONE, pond -> pond.field(0, bad));
            refuses("memory byte " + bad, INDEX, pond -> pond.inner(0, false, bad));
            refuses("code byte " + bad, INDEX, pond -> pond.inner(0, true, bad));
            refuses("cell " + bad, NONE, pond -> pond.cell(0, 0, bad));
        }
        for (int bad : new int[] {MIN, -1, 10, MAX}) {
            refuses("total " + bad, NONE, pond -> pond.total(bad));
        }
        refuses("parent of one without", NONE, pond -> pond.field(0, 15));
        refuses("animal of a cell without", NONE, pond -> pond.cell(2, 1, 2));
    }

    private void refusedWithNothingKept() {
        check.part("A call that answers false or NONE, or throws, changes nothing: nothing kept");
        on(3, 3, CallEdgesTest::busy);
        refuses("back", false, CreaturePond::back);
        refuses("differ", STATE, CreaturePond::differ);
        on(3, 3, () -> {
            CreaturePond pond = busy();
            pond.keep();
            return pond;
        });
        refuses("differ, just kept", NONE, CreaturePond::differ);
    }

    private void refusedWhenFull() {
        check.part("A call that answers false or NONE, or throws, changes nothing: a full pond, a full code");
        on(5, 4, () -> {
            CreaturePond pond = new CreaturePond(5, 4);
            for (int i = 0; i < 16; i++) {
                pond.animal(i % 5, i / 5, i % 4, 100);
                pond.code(i, 4, 0x01020315L);
            }
            return pond;
        });
        refuses("a 17th animal", STATE, pond -> pond.animal(4, 3, 0, 9));
        refuses("a 17th animal in a full cell", STATE, pond -> pond.animal(0, 0, 0, 9));
        on(3, 3, () -> {
            CreaturePond pond = busyAndKept();
            pond.code(0, 8, 0x0102030405060708L);
            pond.code(0, 3, 0x090A0BL);
            return pond;
        });
        refuses("2 bytes more than 19", STATE, pond -> pond.code(0, 2, -1));
        refuses("8 bytes more than 19", STATE, pond -> pond.code(0, 8, -1));
    }

    private void refusedAtTheLimit() {
        check.part("A call that answers false or NONE, or throws, changes nothing: a full STORE");
        on(3, 3, () -> stored(5));
        refuses("6 more", false, pond -> pond.store(6));
        refuses("10000 more", false, pond -> pond.store(10000));
    }
}

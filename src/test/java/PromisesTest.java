/** What promises 1 to 6 and 8 to 14 ask: ordinary inputs, the edges that the document names, and wrong inputs. */
public final class PromisesTest extends Ponds {
    public static void main(String[] args) {
        PromisesTest test = new PromisesTest();
        test.check.each(
                test::newObject, test::sizes, test::set, test::store, test::grain, test::animal, test::animalRefused,
                test::numbersAgain, test::nothingLeftOfAnother, test::code, test::codeRefused, test::cell,
                test::field, test::inner, test::total, test::keepAndBack, test::keepAgain, test::differ,
                test::differInAnimal);
        test.check.end();
    }

    private void newObject() {
        check.part("1 a new object");
        CreaturePond pond = new CreaturePond(4, 3);
        for (int which = 0; which <= 9; which++) {
            check.due("total " + which, pond.total(which), 0);
        }
        for (int y = 0; y < 3; y++) {
            for (int x = 0; x < 4; x++) {
                check.due("grain " + x + " " + y, pond.cell(x, y, 0), 0);
                check.due("mark " + x + " " + y, pond.cell(x, y, 1), 0);
                check.due("animal " + x + " " + y, pond.cell(x, y, 2), CreaturePond.NONE);
            }
        }
        check.throwing("differ", STATE, pond::differ);
        check.due("back", pond.back(), false);
        pond.store(5);
        pond.tick(1);
        check.due("grain with SUN 0", pond.total(1), 0);
    }

    private void sizes() {
        check.part("1 sizes");
        size(3, 10, 3, 10);
        size(10, 3, 10, 3);
        size(2, 11, 3, 10);
        size(11, 2, 10, 3);
        size(0, 7, 3, 7);
        size(-5, 4, 3, 4);
        size(Integer.MIN_VALUE, Integer.MAX_VALUE, 3, 10);
    }

    private void size(int w, int h, int width, int height) {
        CreaturePond pond = new CreaturePond(w, h);
        pond.grain(0, 0, 9);
        int column = 1;
        while (column < 20 && pond.cell(column, 0, 0) == 0) {
            column++;
        }
        int row = 1;
        while (row < 20 && pond.cell(0, row, 0) == 0) {
            row++;
        }
        check.due("width of " + w + " by " + h, column, width);
        check.due("height of " + w + " by " + h, row, height);
    }

    private void set() {
        check.part("2 set");
        CreaturePond pond = new CreaturePond(3, 3);
        pond.store(1000);
        check.due("set 50", pond.set(50, -7), true);
        check.due("stream", pond.total(8), -7);
        pond.tick(1);
        check.due("grain by SUN 50", pond.total(1), 50);
        check.due("set 3", pond.set(3, Integer.MIN_VALUE), true);
        check.due("set 51", pond.set(51, 8), false);
        check.due("set -1", pond.set(-1, 8), false);
        check.due("set MIN", pond.set(Integer.MIN_VALUE, 8), false);
        check.due("stream stays", pond.total(8), Integer.MIN_VALUE);
        pond.tick(1);
        check.due("SUN stays 3", pond.total(1), 53);
        check.due("set 0", pond.set(0, 0), true);
        pond.tick(1);
        check.due("no grain by SUN 0", pond.total(1), 53);
    }

    private void store() {
        check.part("3 store");
        CreaturePond pond = new CreaturePond(3, 3);
        check.due("0", pond.store(0), true);
        check.due("-1", pond.store(-1), false);
        check.due("10001", pond.store(10001), false);
        check.due("MAX", pond.store(Integer.MAX_VALUE), false);
        check.due("MIN", pond.store(Integer.MIN_VALUE), false);
        check.due("still nothing", pond.total(2), 0);
        for (int i = 0; i < 99; i++) {
            pond.store(10000);
        }
        check.due("9999", pond.store(9999), true);
        check.due("2 too many", pond.store(2), false);
        check.due("to the limit", pond.store(1), true);
        check.due("1 too many", pond.store(1), false);
        check.due("0 at the limit", pond.store(0), true);
        check.due("the limit", pond.total(2), 1000000);
        pond.animal(0, 0, 0, 5);
        pond.tick(1);
        check.due("paying goes above the limit", pond.total(2), 1000001);
        check.due("0 above the limit", pond.store(0), false);
    }

    private void grain() {
        check.part("4 grain");
        CreaturePond pond = new CreaturePond(4, 5);
        check.due("250", pond.grain(1, 2, 250), true);
        check.due("is 250", pond.cell(1, 2, 0), 250);
        check.due("251", pond.grain(1, 2, 251), false);
        check.due("-1", pond.grain(1, 2, -1), false);
        check.due("still 250", pond.cell(1, 2, 0), 250);
        check.due("goes round", pond.grain(-3, 7, 8), true);
        check.due("becomes 8", pond.cell(1, 2, 0), 8);
        check.due("alone", pond.total(1), 8);
        check.due("far round", pond.grain(Integer.MIN_VALUE, Integer.MAX_VALUE, 3), true);
        check.due("is there", pond.cell(0, 2, 0), 3);
        check.due("0", pond.grain(1, 2, 0), true);
        check.due("becomes 0", pond.cell(1, 2, 0), 0);
    }

    private void animal() {
        check.part("5 animal");
        CreaturePond pond = new CreaturePond(4, 5);
        check.due("first", pond.animal(-1, 6, 3, 1000), 0);
        check.due("second", pond.animal(0, 0, 0, 1), 1);
        fields(pond, 0, 0, 0, 0, 0, 0, 0, 0, 0, 3, 1, 3, 1000, 0, 0, 0, -1, -1, 0, 0);
        emptyMemory(pond, 0);
        check.due("in its cell", pond.cell(3, 1, 2), 0);
        check.due("no birth", pond.total(5), 0);
    }

    private void animalRefused() {
        check.part("5 animal refused");
        CreaturePond pond = new CreaturePond(4, 5);
        check.throwing("heading 4", ARGUMENT, () -> pond.animal(0, 0, 4, 5));
        check.throwing("heading -1", ARGUMENT, () -> pond.animal(0, 0, -1, 5));
        check.throwing("energy 0", ARGUMENT, () -> pond.animal(0, 0, 0, 0));
        check.throwing("energy 1001", ARGUMENT, () -> pond.animal(0, 0, 0, 1001));
        check.due("none yet", pond.total(4), 0);
        for (int i = 0; i < 15; i++) {
            check.due("number", pond.animal(i % 4, i / 4, 0, 9), i);
        }
        check.throwing("in a full cell", STATE, () -> pond.animal(5, 5, 0, 5));
        check.due("the 16th", pond.animal(0, 4, 0, 9), 15);
        check.throwing("the 17th", STATE, () -> pond.animal(1, 4, 0, 9));
        check.due("16 now", pond.total(4), 16);
        check.due("energy of all", pond.total(0), 144);
    }

    private void numbersAgain() {
        check.part("5 the least free number");
        CreaturePond pond = new CreaturePond(4, 5);
        pond.animal(0, 0, 0, 50);
        pond.animal(1, 0, 0, 2);
        pond.animal(2, 0, 0, 50);
        pond.code(1, 8, 0x010705_010010_0A07L);
        pond.code(1, 8, 0x00_01010F_0A0701_15L);
        pond.tick(1);
        check.due("it did something", pond.field(1, 0) + " " + pond.field(1, 7) + " " + pond.inner(1, false, 0) + " "
                + pond.inner(1, false, 15), "16 5 5 5");
        pond.tick(1);
        check.due("it died", pond.field(1, 0), -1);
        check.due("its number", pond.animal(3, 3, 2, 7), 1);
        fields(pond, 1, 0, 0, 0, 0, 0, 0, 0, 0, 3, 3, 2, 7, 0, 0, 0, -1, -1, 0, 0);
        emptyMemory(pond, 1);
        check.throwing("no code", INDEX, () -> pond.inner(1, true, 0));
    }

    private void nothingLeftOfAnother() {
        check.part("5 nothing is left of one that had the number");
        CreaturePond pond = new CreaturePond(4, 5);
        pond.set(0, 1);
        pond.animal(1, 1, 1, 1000);
        pond.animal(2, 1, 3, 1000);
        pond.code(0, 3, 0x151515);
        pond.code(1, 3, 0x151515);
        pond.tick(50);
        pond.tick(50);
        pond.tick(50);
        pond.tick(50);
        check.due("a child that asks", pond.field(2, 12) + " " + pond.field(2, 13) + " " + pond.field(2, 17) + " "
                + pond.field(2, 18), "199 1 1 1");
        pond.tick(1);
        check.due("it died of age", pond.field(2, 12), CreaturePond.NONE);
        for (int number = 0; number < 3; number++) {
            check.due("number", pond.animal(number, 4, 2, 7), number);
        }
        fields(pond, 2, 0, 0, 0, 0, 0, 0, 0, 0, 2, 4, 2, 7, 0, 0, 0, -1, -1, 0, 0);
    }

    private void code() {
        check.part("6 code");
        CreaturePond pond = new CreaturePond(3, 3);
        pond.animal(0, 0, 0, 5);
        check.due("2 of 8 bytes", pond.code(0, 2, 0x11223344556677F8L), 2);
        check.due("8 more", pond.code(0, 8, 0x81223344556677FFL), 10);
        check.due("8 more", pond.code(0, 8, 0), 18);
        check.throwing("3 more", STATE, () -> pond.code(0, 3, 7));
        check.due("2 more", pond.code(0, 2, 0x0102), 20);
        check.throwing("1 more", STATE, () -> pond.code(0, 1, 7));
        int[] bytes = {0x77, 0xF8, 0x81, 0x22, 0x33, 0x44, 0x55, 0x66, 0x77, 0xFF, 0, 0, 0, 0, 0, 0, 0, 0, 1, 2};
        for (int i = 0; i < 20; i++) {
            check.due("byte " + i, pond.inner(0, true, i), (byte) bytes[i]);
        }
        check.due("length", pond.field(0, 14), 20);
    }

    private void codeRefused() {
        check.part("6 code refused");
        CreaturePond pond = new CreaturePond(3, 3);
        check.throwing("no animal", ARGUMENT, () -> pond.code(0, 1, 7));
        pond.animal(0, 0, 0, 1);
        check.throwing("n 0", ARGUMENT, () -> pond.code(0, 0, 7));
        check.throwing("n 9", ARGUMENT, () -> pond.code(0, 9, 7));
        check.throwing("n MIN", ARGUMENT, () -> pond.code(0, Integer.MIN_VALUE, 7));
        check.throwing("n MAX", ARGUMENT, () -> pond.code(0, Integer.MAX_VALUE, 7));
        check.throwing("animal -1", ARGUMENT, () -> pond.code(-1, 1, 7));
        check.throwing("animal 1", ARGUMENT, () -> pond.code(1, 1, 7));
        check.throwing("animal 16", ARGUMENT, () -> pond.code(16, 1, 7));
        check.throwing("animal MAX", ARGUMENT, () -> pond.code(Integer.MAX_VALUE, 1, 7));
        check.due("nothing added", pond.field(0, 14), 0);
        pond.tick(1);
        check.throwing("a dead one", ARGUMENT, () -> pond.code(0, 1, 7));
    }

    private void cell() {
        check.part("8 cell");
        CreaturePond pond = new CreaturePond(4, 5);
        pond.grain(3, 4, 77);
        pond.animal(3, 4, 0, 50);
        pond.code(0, 5, 0x01058014_05L);
        pond.tick(1);
        check.due("grain", pond.cell(3, 4, 0), 77);
        check.due("mark", pond.cell(3, 4, 1), -128);
        check.due("animal", pond.cell(3, 4, 2), 0);
        check.due("round below", pond.cell(-1, -1, 1), -128);
        check.due("round above", pond.cell(7, 9, 2), 0);
        check.due("far round", pond.cell(Integer.MAX_VALUE, 4, 0), 77);
        check.due("far round below", pond.cell(Integer.MIN_VALUE, Integer.MIN_VALUE, 2), CreaturePond.NONE);
        check.due("no animal", pond.cell(2, 4, 2), CreaturePond.NONE);
        check.due("w 3", pond.cell(3, 4, 3), CreaturePond.NONE);
        check.due("w -1", pond.cell(3, 4, -1), CreaturePond.NONE);
    }

    private void field() {
        check.part("9 field");
        CreaturePond pond = new CreaturePond(4, 5);
        pond.animal(2, 3, 1, 60);
        pond.code(0, 7, 0x01077F_010281_15L);
        pond.tick(1);
        fields(pond, 0, 0, 0, -127, 0, 0, 0, 0, 127, 2, 3, 1, 59, 1, 0, 7, -1, -1, 0, 1);
        pond.tick(0);
        check.due("asked in the latest tick still", pond.field(0, 18), 1);
        check.due("w 19", pond.field(0, 19), CreaturePond.NONE);
        check.due("w -1", pond.field(0, -1), CreaturePond.NONE);
        check.due("w MIN", pond.field(0, Integer.MIN_VALUE), CreaturePond.NONE);
        check.due("animal 1", pond.field(1, 12), CreaturePond.NONE);
        check.due("animal -1", pond.field(-1, 12), CreaturePond.NONE);
        check.due("animal 16", pond.field(16, 12), CreaturePond.NONE);
        check.due("animal MAX", pond.field(Integer.MAX_VALUE, 12), CreaturePond.NONE);
    }

    private void inner() {
        check.part("10 inner");
        CreaturePond pond = new CreaturePond(3, 3);
        check.throwing("no animal", INDEX, () -> pond.inner(0, false, 0));
        pond.animal(0, 0, 0, 50);
        check.throwing("no code", INDEX, () -> pond.inner(0, true, 0));
        pond.code(0, 8, 0x0101FF_0100AB_0A00L);
        pond.code(0, 2, 0x0115L);
        pond.tick(1);
        check.due("memory 15", pond.inner(0, false, 15), (byte) 0xAB);
        check.due("memory 14", pond.inner(0, false, 14), (byte) 0);
        check.due("code 9", pond.inner(0, true, 9), (byte) 0x15);
        check.throwing("code 10", INDEX, () -> pond.inner(0, true, 10));
        check.throwing("code -1", INDEX, () -> pond.inner(0, true, -1));
        check.throwing("memory 16", INDEX, () -> pond.inner(0, false, 16));
        check.throwing("memory -1", INDEX, () -> pond.inner(0, false, -1));
        check.throwing("memory MAX", INDEX, () -> pond.inner(0, false, Integer.MAX_VALUE));
        check.throwing("animal 1", INDEX, () -> pond.inner(1, false, 0));
        check.throwing("animal -1", INDEX, () -> pond.inner(-1, false, 0));
        check.throwing("animal 16", INDEX, () -> pond.inner(16, false, 0));
    }

    private void total() {
        check.part("11 total");
        CreaturePond pond = new CreaturePond(3, 4);
        pond.set(5, 123);
        pond.store(20);
        pond.grain(2, 3, 100);
        pond.animal(0, 0, 0, 30);
        pond.animal(1, 0, 0, 1);
        pond.tick(3);
        // STORE: 20 - 5 + 2, then 17 - 5 + 1, then 13 - 5 + 1; whose turn it is: 15 of 12 cells.
        totals(pond, 27, 115, 9, 151, 1, 0, 1, 3, 123, 3);
        check.due("total 10", pond.total(10), CreaturePond.NONE);
        check.due("total -1", pond.total(-1), CreaturePond.NONE);
    }

    private void keepAndBack() {
        check.part("12, 14 keep and back");
        CreaturePond pond = pair(1234567, 100, 200);
        put(pond, 0, 4, 0, 1, ASK);
        pond.keep();
        for (int i = 0; i < 3; i++) {
            check.due("a birth and a death", pond.tick(1) + " " + pond.total(5) + " " + pond.total(6), "3 1 1");
            check.due("the first cell that differs", pond.differ(), 1);
            check.due("back", pond.back(), true);
            totals(pond, 301, 0, 0, 301, 3, 0, 0, 0, 1234567, 0);
            fields(pond, 0, 0, 0, 0, 0, 0, 0, 0, 0, 1, 1, 1, 100, 0, 0, 1, -1, -1, 0, 0);
            fields(pond, 2, 0, 0, 0, 0, 0, 0, 0, 0, 0, 4, 0, 1, 0, 0, 1, -1, -1, 0, 0);
            check.due("no child", pond.cell(1, 0, 2), CreaturePond.NONE);
            check.due("nothing differs", pond.differ(), CreaturePond.NONE);
        }
    }

    private void keepAgain() {
        check.part("12 keep in place of one that was");
        CreaturePond pond = new CreaturePond(3, 3);
        pond.keep();
        pond.grain(1, 1, 4);
        pond.keep();
        check.due("nothing differs", pond.differ(), CreaturePond.NONE);
        pond.grain(1, 1, 9);
        check.due("back", pond.back(), true);
        check.due("to the later one", pond.cell(1, 1, 0), 4);
    }

    private void differ() {
        check.part("13 differ");
        CreaturePond pond = new CreaturePond(4, 3);
        check.throwing("nothing kept", STATE, pond::differ);
        pond.animal(1, 1, 0, 100);
        pond.code(0, 6, 0x010003_140000L);
        pond.keep();
        pond.store(100);
        pond.set(0, 17);
        check.due("STORE and STREAM do not count", pond.differ(), CreaturePond.NONE);
        pond.grain(3, 2, 1);
        check.due("grain in the last cell", pond.differ(), 11);
        pond.grain(3, 1, 1);
        check.due("grain in an earlier one", pond.differ(), 7);
        pond.tick(1);
        check.due("energy", pond.differ(), 5);
        pond.back();
        pond.animal(0, 0, 0, 1);
        check.due("an animal where none was", pond.differ(), 0);
        pond.keep();
        pond.tick(1);
        check.due("none where one was", pond.differ(), 0);
    }

    private void differInAnimal() {
        check.part("13 differ in an animal, in a mark");
        CreaturePond pond = new CreaturePond(4, 3);
        pond.animal(2, 0, 0, 1);
        pond.animal(3, 0, 0, 1);
        pond.keep();
        pond.tick(1);
        pond.animal(3, 0, 0, 1);
        pond.animal(2, 0, 0, 1);
        check.due("another number", pond.differ(), 2);
        pond.back();
        pond.code(0, 3, 0x010203);
        check.due("its code does not count", pond.differ(), CreaturePond.NONE);
        pond.tick(1);
        pond.animal(2, 0, 1, 1);
        pond.animal(3, 0, 0, 1);
        check.due("another heading", pond.differ(), 2);
        pond.back();
        pond.animal(0, 2, 0, 9);
        pond.code(2, 5, 0x010003_1400L);
        pond.tick(1);
        pond.animal(2, 0, 0, 1);
        pond.animal(3, 0, 0, 1);
        check.due("a mark, and energy", pond.differ(), 8);
        pond.code(2, 4, 0x10001000L);
        pond.keep();
        pond.tick(1);
        pond.animal(2, 0, 0, 1);
        pond.animal(3, 0, 0, 1);
        check.due("energy alone", pond.differ(), 8);

        // It leaves its mark with its last energy; another one stands there then as the first one did.
        CreaturePond marked = new CreaturePond(4, 3);
        marked.animal(0, 2, 0, 2);
        marked.code(0, 5, 0x010003_1400L);
        marked.keep();
        marked.tick(2);
        check.due("died with its mark left", marked.cell(0, 2, 1) + " " + marked.cell(0, 2, 2), "3 -1");
        marked.animal(0, 2, 0, 2);
        check.due("the mark alone", marked.differ(), 8);
    }
}

/** What promise 7 and the terms ask of a tick: the sun, each operation, breeding and death. */
public final class TickTest extends Ponds {
    public static void main(String[] args) {
        TickTest test = new TickTest();
        test.check.each(
                test::calls, test::sun, test::sunOnFullCells, test::payAndAge, test::operationNumbers,
                test::reckoning, test::memory, test::jumps, test::operands, test::codeGoesRound,
                test::eightOperations, test::lookAhead, test::lookInside, test::turning, test::stepping, test::eating,
                test::giving, test::marking, test::order, test::birth, test::noBirth, test::whereBorn, test::whoPairs,
                test::noBirthWithTheDead, test::fullPond, test::childCode, test::generations, test::death,
                test::energyStays);
        test.check.end();
    }

    private void calls() {
        check.part("7 calls");
        CreaturePond pond = new CreaturePond(3, 3);
        put(pond, 0, 0, 0, 60);
        put(pond, 1, 0, 0, 52);
        check.due("tick 0", pond.tick(0), 2);
        check.due("no tick", pond.total(7), 0);
        check.throwing("tick -1", ARGUMENT, () -> pond.tick(-1));
        check.throwing("tick 51", ARGUMENT, () -> pond.tick(51));
        check.throwing("tick MAX", ARGUMENT, () -> pond.tick(Integer.MAX_VALUE));
        check.throwing("tick MIN", ARGUMENT, () -> pond.tick(Integer.MIN_VALUE));
        check.due("still no tick", pond.total(7), 0);
        check.due("tick 50", pond.tick(50), 2);
        check.due("50 ticks", pond.total(7), 50);
        check.due("tick 2", pond.tick(2), 1);
    }

    private void sun() {
        check.part("7 sun");
        CreaturePond pond = new CreaturePond(4, 3);
        pond.set(5, 0);
        pond.store(7);
        pond.tick(1);
        check.due("row by row", pond.cell(3, 0, 0) + " " + pond.cell(0, 1, 0) + " " + pond.cell(1, 1, 0), "1 1 0");
        check.due("turn", pond.total(9), 5);
        pond.tick(1);
        check.due("while there is STORE", pond.total(9), 7);
        check.due("STORE", pond.total(2), 0);
        pond.tick(1);
        check.due("not without STORE", pond.total(9), 7);
        pond.store(100);
        pond.tick(1);
        check.due("the first behind the last", pond.total(9), 0);
        pond.tick(1);
        check.due("and on", pond.total(9), 5);
        check.due("second grain", pond.cell(0, 0, 0), 2);
    }

    private void sunOnFullCells() {
        check.part("7 sun on full cells");
        CreaturePond pond = new CreaturePond(3, 3);
        pond.set(3, 0);
        pond.store(2);
        pond.grain(0, 0, 250);
        pond.grain(1, 0, 249);
        pond.tick(1);
        check.due("a full cell gets none", pond.cell(0, 0, 0), 250);
        check.due("a nearly full one does", pond.cell(1, 0, 0), 250);
        check.due("its turn counts as one", pond.total(9), 3);
        check.due("STORE", pond.total(2), 0);
    }

    private void payAndAge() {
        check.part("7 pay and age");
        CreaturePond pond = new CreaturePond(3, 3);
        put(pond, 0, 0, 0, 10);
        put(pond, 1, 1, 0, 1, 1, 0, 5, MARK, 0);
        pond.tick(1);
        check.due("energy", pond.field(0, 11), 9);
        check.due("age", pond.field(0, 12), 1);
        check.due("STORE", pond.total(2), 2);
        check.due("no operation without energy", pond.cell(1, 1, 1), 0);
        check.due("dead", pond.total(6), 1);
        check.due("place without code", pond.field(0, 13), 0);
    }

    private void operationNumbers() {
        check.part("7 operation numbers");
        register("1 + 22", 0, 9, 23, 0, 9, ASK);
        register("1 + 22 * 11", 0, 9, 243, 0, 9, ASK);
        register("-1 is 255, 13", 0, 7, 1, 0, -1, -1, 0, 7, ASK, 1, 0, 7, ASK);
        check.due("ASK + 22 * 10", after(241).field(0, 18), 1);
        CreaturePond nothing = after(0, 0, ASK);
        check.due("0 does nothing", nothing.field(0, 13) + " " + nothing.field(0, 18), "0 1");
    }

    private void reckoning() {
        check.part("7 reckoning");
        register("1 becomes v", 3, -128, 1, 3, -128, ASK);
        register("1 r & 7", 3, 5, 1, -5, 5, ASK);
        register("2 becomes register v", 2, 77, 1, 1, 77, 2, 2, 9, ASK);
        register("3 grows", 0, 50, 1, 0, 20, 1, 1, 30, 3, 0, 1, ASK);
        register("3 is cut", 0, -56, 1, 0, 100, 3, 0, 0, ASK);
        register("4 becomes less", 0, -10, 1, 0, 20, 1, 1, 30, 4, 0, 1, ASK);
        register("4 is cut", 0, 56, 1, 0, -100, 1, 1, 100, 4, 0, 1, ASK);
        register("5 &", 0, 8, 1, 0, 12, 1, 1, 10, 5, 0, 1, ASK);
        register("6 ^", 0, 6, 1, 0, 12, 1, 1, 10, 6, 0, 1, ASK);
        register("7 twice", 0, 50, 1, 0, 25, 7, 0, ASK);
        register("7 is cut", 0, -56, 1, 0, 100, 7, 0, ASK);
        register("8 of -1", 0, 127, 1, 0, -1, 8, 0, ASK);
        register("8 of 7", 0, 3, 1, 0, 7, 8, 0, ASK);
        register("8 of -128", 0, 64, 1, 0, -128, 8, 0, ASK);
    }

    private void memory() {
        check.part("7 memory");
        CreaturePond pond = after(1, 0, 66, 1, 1, 35, 10, 0, 1, 1, 2, 19, 9, 3, 2, ASK);
        check.due("memory 35 & 15", pond.inner(0, false, 3), (byte) 66);
        check.due("read by 19 & 15", pond.field(0, 3), 66);
        check.due("memory of -1", after(1, 0, 66, 1, 1, -1, 10, 0, 1, ASK).inner(0, false, 15), (byte) 66);
        check.due("memory is one thing, its register another", after(1, 0, 66, 10, 0, 0, ASK).inner(0, false, 2), (byte) 66);
    }

    private void jumps() {
        check.part("7 jumps");
        register("11", 0, 0, 11, 5, 1, 0, 9, ASK);
        check.due("11 modulo the length", after(11, 6, ASK, ASK).field(0, 13), 3);
        check.due("11 v & 255", after(0, 11, -1, ASK, ASK, ASK, ASK).field(0, 13), 4);
        register("12 at 0", 1, 0, 12, 0, 6, 1, 1, 9, ASK);
        register("12 not at 1", 1, 9, 1, 0, 1, 12, 0, 9, 1, 1, 9, ASK);
        register("12 not below 0", 1, 9, 1, 0, -1, 12, 0, 9, 1, 1, 9, ASK);
        register("13 below 0", 1, 0, 1, 0, -1, 13, 0, 9, 1, 1, 9, ASK);
        register("13 not at 0", 1, 9, 13, 0, 6, 1, 1, 9, ASK);
        register("13 not above 0", 1, 9, 1, 0, 1, 13, 0, 9, 1, 1, 9, ASK);
        check.due("12 modulo the length", after(12, 0, 11, ASK).field(0, 13), 0);
        check.due("13 v & 255", after(1, 0, -1, 13, 0, -2, ASK, ASK).field(0, 13), 7);
    }

    private void operands() {
        check.part("7 operands");
        int[] counts = {0, 2, 2, 2, 2, 2, 2, 1, 1, 2, 2, 1, 2, 2, 2, 2, 1, 0, 0, 1, 1, 0};
        for (int operation = 0; operation < 22; operation++) {
            if (operation < 11 || operation > 13) {
                // What is done next asks, and stands at its own number's distance.
                CreaturePond pond = after(operation, ASK, ASK, ASK, ASK);
                int asks = operation < TURN ? 1 : 0;
                check.due("place behind " + operation, pond.field(0, 13), 1 + counts[operation] + asks);
            }
        }
        check.due("place behind 12 that does not jump", after(1, 5, 1, 12, 5, 0, ASK, ASK).field(0, 13), 7);
        check.due("place behind 13 that does not jump", after(13, 5, 0, ASK, ASK).field(0, 13), 4);
        register("12 looks at r & 7", 1, 9, 1, 7, 1, 12, 15, 9, 1, 1, 9, ASK);
        register("13 looks at r & 7", 1, 0, 1, 7, -1, 13, 15, 9, 1, 1, 9, ASK);
        register("3 r & 7", 7, 6, 1, 7, 3, 3, 15, 23, ASK);
        register("8 keeps the lowest bits", 0, 0, 1, 0, 1, 8, 0, ASK);
        register("8 of 3", 0, 1, 1, 0, 3, 8, 0, ASK);
    }

    private void codeGoesRound() {
        check.part("7 the code goes round");
        CreaturePond one = after(1);
        check.due("1 alone", one.field(0, 1) + " " + one.field(0, 13), "1 0");
        CreaturePond two = after(1, 2);
        check.due("1 2", two.field(0, 2) + " " + two.field(0, 1) + " " + two.field(0, 13), "1 1 0");
        CreaturePond pond = after(11, 3, 5, 1);
        check.due("operands behind the end", pond.field(0, 3), 3);
        check.due("place behind an act at the end", after(0, ASK).field(0, 13), 0);
        check.due("place behind its operand", after(TURN, 0, 0).field(0, 13), 2);
        check.due("place behind an operand at the beginning", after(11, 2, TURN).field(0, 13), 1);
        CreaturePond grown = after(ASK);
        grown.code(0, 2, 0x0015);
        grown.tick(1);
        check.due("new code behind the place", grown.field(0, 13), 1);
    }

    private void eightOperations() {
        check.part("7 eight operations");
        check.due("eight", after(0, 0, 0, 0, 0, 0, 0, 0, 0, 0).field(0, 13), 8);
        check.due("an act as the eighth", after(0, 0, 0, 0, 0, 0, 0, ASK, 0).field(0, 18), 1);
        check.due("no ninth", after(0, 0, 0, 0, 0, 0, 0, 0, ASK).field(0, 18), 0);
        register("none behind an act", 0, 0, TURN, 0, 1, 0, 9);
        register("none behind asking", 0, 0, ASK, 1, 0, 9);
    }

    private void lookAhead() {
        check.part("7 look ahead");
        CreaturePond pond = new CreaturePond(3, 4);
        pond.grain(1, 3, 251 - 2);
        pond.grain(1, 0, 100);
        put(pond, 1, 3, 2, 50, 1, 0, -7, MARK, 0);
        int other = put(pond, 1, 0, 0, 50, 14, 0, 0, 14, 1, -3, 14, 2, 2, 14, 3, 7, ASK);
        pond.tick(1);
        check.due("grain >> 1", pond.field(other, 0), 124);
        check.due("an animal", pond.field(other, 1), 1);
        check.due("mark", pond.field(other, 2), -7);
        check.due("heading", pond.field(other, 3), 2);
        CreaturePond alone = after(1, 1, 5, 1, 3, 5, 14, 1, 1, 14, 3, 3, ASK);
        check.due("no animal", alone.field(0, 1), 0);
        check.due("no heading", alone.field(0, 3), -1);
    }

    private void lookInside() {
        check.part("7 look inside");
        int[] code = {15, 0, 0, 15, 1, 5, 15, 2, -2, 15, 3, 3, ASK};
        CreaturePond pond = new CreaturePond(3, 3);
        pond.grain(0, 0, 45);
        put(pond, 0, 0, 3, 129, code);
        pond.tick(1);
        check.due("energy above 127", pond.field(0, 0), 127);
        check.due("age", pond.field(0, 1), 1);
        check.due("heading", pond.field(0, 2), 3);
        check.due("grain >> 1", pond.field(0, 3), 22);
        pond.tick(2);
        check.due("energy below", pond.field(0, 0), 126);
        pond.tick(50);
        put(pond, 1, 1, 0, 1000, code);
        pond.tick(50);
        pond.tick(50);
        pond.tick(27);
        check.due("age 127", pond.field(1, 1), 127);
        pond.tick(2);
        check.due("age 129 & 127", pond.field(1, 1), 1);
    }

    private void turning() {
        check.part("7 turn");
        check.due("by 1", after(TURN, 1).field(0, 10), 1);
        check.due("by 6", after(TURN, 6).field(0, 10), 2);
        check.due("by -1", after(TURN, -1).field(0, 10), 3);
        CreaturePond pond = after(TURN, 3);
        pond.tick(2);
        check.due("three times 3", pond.field(0, 10), 1);
        check.due("it costs nothing more", pond.field(0, 11), 97);
    }

    private void stepping() {
        check.part("7 step");
        int[][] ways = {{0, 0, 2}, {1, 1, 0}, {2, 0, 1}, {3, 3, 0}};
        for (int[] way : ways) {
            CreaturePond pond = new CreaturePond(4, 3);
            put(pond, 0, 0, way[0], 10, STEP);
            pond.tick(1);
            check.due("heading " + way[0], pond.field(0, 8) + " " + pond.field(0, 9), way[1] + " " + way[2]);
            check.due("it left", pond.cell(0, 0, 2), -1);
            check.due("it is there", pond.cell(way[1], way[2], 2), 0);
            check.due("it paid", pond.field(0, 11) + " " + pond.total(2), "7 3");
        }
        CreaturePond pond = new CreaturePond(3, 3);
        put(pond, 0, 0, 1, 10, STEP);
        put(pond, 1, 0, 1, 10);
        pond.tick(1);
        check.due("it stays", pond.cell(0, 0, 2) + " " + pond.cell(1, 0, 2), "0 1");
        check.due("it pays", pond.field(0, 11), 7);
        CreaturePond poor = new CreaturePond(3, 3);
        put(poor, 0, 0, 1, 2, STEP);
        put(poor, 0, 1, 1, 4, STEP);
        check.due("one lives", poor.tick(1), 1);
        check.due("what it had", poor.total(2), 2 + 3);
        check.due("the other has 1", poor.field(1, 11), 1);
    }

    private void eating() {
        check.part("7 eat");
        CreaturePond pond = new CreaturePond(3, 3);
        pond.grain(1, 1, 70);
        put(pond, 1, 1, 0, 5, EAT);
        pond.tick(1);
        check.due("30", pond.field(0, 11) + " " + pond.cell(1, 1, 0), "34 40");
        pond.tick(2);
        check.due("30 and 10", pond.field(0, 11) + " " + pond.cell(1, 1, 0), "72 0");
        pond.tick(1);
        check.due("0", pond.field(0, 11) + " " + pond.cell(1, 1, 0), "71 0");
    }

    private void giving() {
        check.part("7 give");
        CreaturePond pond = new CreaturePond(3, 3);
        put(pond, 0, 0, 1, 100, GIVE, 10 + 64);
        put(pond, 1, 0, 0, 20, GIVE, 63);
        pond.tick(1);
        check.due("v & 63", pond.field(0, 11) + " " + pond.field(1, 11), "89 29");
        check.due("to none", pond.total(0), 118);
        put(pond, 1, 2, 0, 50);
        pond.tick(1);
        check.due("all it has", pond.field(0, 11) + " " + pond.field(1, 11) + " " + pond.field(2, 11), "78 -1 87");
        CreaturePond saved = new CreaturePond(3, 3);
        put(saved, 0, 0, 1, 10, GIVE, 63);
        put(saved, 1, 0, 3, 10, GIVE, 5);
        saved.tick(1);
        check.due("given back in time", saved.field(0, 11) + " " + saved.field(1, 11), "5 13");
        check.due("v -1 is 63", given(-1), 63);
        check.due("v 64 is 0", given(64), 0);
    }

    private static int given(int v) {
        CreaturePond pond = new CreaturePond(3, 3);
        put(pond, 0, 0, 1, 100, GIVE, v);
        put(pond, 1, 0, 0, 1, ASK);
        pond.tick(1);
        return 99 - pond.field(0, 11);
    }

    private void marking() {
        check.part("7 mark");
        CreaturePond pond = after(1, 2, -9, MARK, 10);
        check.due("its cell", pond.cell(1, 1, 1), -9);
        check.due("no other", pond.cell(1, 0, 1), 0);
        check.due("it costs nothing more", pond.field(0, 11), 99);
    }

    private void order() {
        check.part("7 by their numbers");
        CreaturePond pond = new CreaturePond(5, 3);
        put(pond, 1, 0, 1, 50, STEP);
        put(pond, 2, 0, 1, 50, STEP);
        pond.tick(1);
        check.due("0 before 1 has gone", pond.field(0, 8) + " " + pond.field(1, 8), "1 3");
        CreaturePond other = new CreaturePond(5, 3);
        put(other, 2, 0, 1, 50, STEP);
        put(other, 1, 0, 1, 50, STEP);
        other.tick(1);
        check.due("1 after 0 has gone", other.field(0, 8) + " " + other.field(1, 8), "3 2");
        CreaturePond sunny = new CreaturePond(3, 3);
        sunny.set(1, 0);
        sunny.store(1);
        put(sunny, 0, 0, 1, 2, EAT);
        sunny.tick(1);
        check.due("the sun comes first", sunny.field(0, 11), 2);
    }

    private void birth() {
        check.part("7 birth");
        CreaturePond pond = pair(0, 101, 82);
        check.due("tick", pond.tick(1), 3);
        check.due("lesser", pond.field(0, 11), 45);
        check.due("greater", pond.field(1, 11), 36);
        fields(pond, 2, 0, 0, 0, 0, 0, 0, 0, 0, 1, 0, 1, 80, 0, 0, 1, 0, 1, 1, 0);
        check.due("in its cell", pond.cell(1, 0, 2), 2);
        check.due("STORE", pond.total(2), 22);
        check.due("births", pond.total(5), 1);
        check.due("all", pond.total(3), 183);
        check.due("its one byte is changed", pond.inner(2, true, 0), (byte) streamNumber(0, 4));
        check.due("five numbers are taken", pond.total(8), streamAfter(0, 5));
        pond.tick(1);
        check.due("it ages then", pond.field(2, 12), 1);
        check.due("no more births below 40", pond.total(5), 1);
    }

    private void noBirth() {
        check.part("7 no birth");
        check.due("40 and 40", pair(0, 41, 41).tick(1), 3);
        CreaturePond poor = pair(9, 40, 41);
        check.due("39 and 40", poor.tick(1), 2);
        check.due("no number is taken", poor.total(8), 9);
        check.due("nothing is paid", poor.total(2), 2);
        check.due("40 and 39", pair(9, 41, 40).tick(1), 2);
        CreaturePond silent = new CreaturePond(4, 5);
        put(silent, 1, 1, 1, 100, ASK);
        put(silent, 2, 1, 3, 100, ASK, 0, 0, 0, 0, 0, 0, 0, 0);
        check.due("both ask", silent.tick(1), 3);
        check.due("one asks", silent.tick(1), 3);
        check.due("asked", silent.field(0, 18) + " " + silent.field(1, 18), "1 0");
        CreaturePond turned = new CreaturePond(4, 5);
        put(turned, 1, 1, 1, 100, ASK);
        put(turned, 2, 1, 1, 100, ASK);
        check.due("one looks away", turned.tick(1), 2);
        CreaturePond away = new CreaturePond(4, 5);
        put(away, 1, 1, 3, 100, ASK);
        put(away, 2, 1, 3, 100, ASK);
        check.due("the lesser looks away", away.tick(1), 2);
        CreaturePond far = new CreaturePond(5, 5);
        put(far, 1, 1, 1, 100, ASK);
        put(far, 3, 1, 3, 100, ASK);
        check.due("a cell between them", far.tick(1), 2);
    }

    private void whereBorn() {
        check.part("7 where a child is born");
        int[][] around = {{1, 0}, {2, 1}, {1, 2}, {0, 1}};
        CreaturePond pond = pair(0, 200, 200);
        put(pond, 1, 0, 0, 100);
        pond.tick(1);
        check.due("not right, where the other is: down", pond.cell(around[2][0], around[2][1], 2), 3);
        pond.tick(1);
        check.due("then left", pond.cell(around[3][0], around[3][1], 2), 4);
        int before = pond.total(8);
        put(pond, 3, 3, 0, 1);
        check.due("then nowhere", pond.tick(1), 5);
        check.due("no number is taken", pond.total(8), before);
        CreaturePond swapped = new CreaturePond(4, 5);
        put(swapped, 2, 1, 3, 100, ASK);
        put(swapped, 1, 1, 1, 100, ASK);
        swapped.tick(1);
        check.due("around the lesser, by the lesser's heading", swapped.cell(2, 0, 2) + " " + swapped.field(2, 10), "2 3");
        CreaturePond round = new CreaturePond(3, 3);
        put(round, 0, 0, 3, 100, ASK);
        put(round, 2, 0, 1, 100, ASK);
        round.tick(1);
        check.due("round the edge", round.cell(0, 2, 2), 2);
    }

    private void whoPairs() {
        check.part("7 pairs by the lesser number");
        CreaturePond pond = new CreaturePond(6, 3);
        pond.set(0, 77);
        put(pond, 0, 0, 1, 100, ASK);
        put(pond, 3, 0, 1, 100, ASK);
        put(pond, 4, 0, 3, 300, ASK);
        put(pond, 1, 0, 3, 200, ASK);
        check.due("two births", pond.tick(1), 6);
        check.due("first pair", pond.field(4, 15) + " " + pond.field(4, 16), "0 3");
        check.due("second pair", pond.field(5, 15) + " " + pond.field(5, 16), "1 2");
        check.due("the first one's child", pond.cell(0, 2, 2), 4);
        check.due("the second one's child", pond.cell(3, 2, 2), 5);
        // A child can get a number below its parents', and parents are told by their numbers when they are dead.
        CreaturePond low = new CreaturePond(4, 5);
        put(low, 3, 3, 0, 1);
        put(low, 1, 1, 1, 41, ASK);
        put(low, 2, 1, 3, 41, ASK);
        low.tick(1);
        check.due("not the number of one that dies in this tick", low.field(3, 15), 1);
        put(low, 3, 3, 0, 1);
        low.tick(16);
        check.due("parents dead", low.field(1, 0) + " " + low.field(2, 0), "-1 -1");
        check.due("parents told", low.field(3, 15) + " " + low.field(3, 16), "1 2");
    }

    private void noBirthWithTheDead() {
        check.part("7 no birth with the dead");
        CreaturePond pond = new CreaturePond(4, 5);
        put(pond, 1, 1, 1, 1000, ASK);
        pond.tick(50);
        pond.tick(50);
        pond.tick(50);
        pond.tick(49);
        put(pond, 2, 1, 3, 500, 0, 0, 0, 0, 0, 0, 0, 0, ASK);
        check.due("it asks and dies of age", pond.tick(1) + " " + pond.field(0, 18), "1 -1");
        check.due("the other one asks too late", pond.tick(1) + " " + pond.field(1, 18), "1 1");
        check.due("births", pond.total(5), 0);
    }

    private void fullPond() {
        check.part("7 fewer than 16");
        CreaturePond pond = new CreaturePond(10, 10);
        put(pond, 0, 0, 1, 300, ASK);
        put(pond, 1, 0, 3, 300, ASK);
        for (int i = 0; i < 14; i++) {
            put(pond, i % 7, 4 + i / 7, 0, i == 0 ? 1 : 100);
        }
        pond.tick(1);
        check.due("one died, none was born", pond.total(4) + " " + pond.total(5), "15 0");
        check.due("no number is taken", pond.total(8), 0);
        check.due("now there is room", pond.tick(1), 16);
        check.due("it has the free number", pond.cell(0, 9, 2), 2);
        check.due("no more", pond.tick(1), 16);
        check.due("one birth", pond.total(5), 1);
    }

    /** The code of the child of a pair whose codes are ASK and then 10, 11 .. and ASK and then 30, 31 .. */
    private static String childOf(int stream, int length, int otherLength) {
        CreaturePond pond = pair(stream, 200, 200);
        for (int i = 1; i < length; i++) {
            pond.code(0, 1, 9 + i);
        }
        for (int i = 1; i < otherLength; i++) {
            pond.code(1, 1, 29 + i);
        }
        pond.tick(1);
        return Told.code(pond, 2) + " | " + pond.total(8);
    }

    private void child(int length, int otherLength, int from, int to, String want) {
        // The numbers of the STREAM have no sign, though the STREAM itself has one.
        for (int start : new int[] {1, Integer.MIN_VALUE}) {
            int stream = streamFor(start, length, from, to, false);
            check.due("child of " + length + ", " + otherLength + " from " + from + " to " + to,
                    childOf(stream, length, otherLength), want + " | " + streamAfter(stream, 3));
        }
    }

    private void childCode() {
        check.part("7 the child's code");
        child(5, 5, 0, 0, "21 10 11 12 13");
        child(5, 5, 1, 3, "21 30 31 12 13");
        child(5, 5, 2, 9, "21 10 31 32 33");
        child(5, 3, 1, 4, "21 30 31 13");
        child(5, 2, 2, 4, "21 10 13");
        child(5, 1, 5, 7, "21 10 11 12 13");
        child(5, 12, 5, 9, "21 10 11 12 13 34 35 36 37");
        child(3, 12, 2, 9, "21 10 31 32 33 34 35 36 37");
        child(20, 20, 20, 27, "21 10 11 12 13 14 15 16 17 18 19 20 21 22 23 24 25 26 27 28");
        child(20, 20, 17, 24, "21 10 11 12 13 14 15 16 17 18 19 20 21 22 23 24 25 46 47 48");
        int stream = streamFor(1, 5, 1, 3, true);
        String[] due = {"21", "30", "31", "12", "13"};
        due[streamNumber(stream, 3) % 5] = Byte.toString((byte) streamNumber(stream, 4));
        check.due("a changed byte", childOf(stream, 5, 5), String.join(" ", due) + " | " + streamAfter(stream, 5));
    }

    private void generations() {
        check.part("7 generations");
        CreaturePond pond = new CreaturePond(3, 3);
        pond.set(0, streamFor(1, 1, 0, 0, false));
        put(pond, 0, 0, 1, 1000, ASK);
        put(pond, 1, 0, 3, 1000, ASK);
        pond.tick(1);
        // The first child stands above its first parent, heading right; one that faces it asks as it does.
        put(pond, 1, 2, 3, 500, ASK);
        pond.tick(1);
        boolean found = false;
        for (int number = 3; number < 16; number++) {
            if (pond.field(number, 15) == 2 && pond.field(number, 16) == 3) {
                check.due("generation", pond.field(number, 17), 2);
                found = true;
            }
        }
        check.due("a grandchild", found, true);
    }

    private void death() {
        check.part("7 death");
        CreaturePond pond = new CreaturePond(3, 3);
        put(pond, 1, 1, 0, 1000);
        pond.grain(1, 1, 100);
        for (int i = 0; i < 3; i++) {
            pond.tick(50);
        }
        check.due("at 199", pond.tick(49), 1);
        check.due("age", pond.field(0, 12), 199);
        check.due("at 200", pond.tick(1), 0);
        check.due("grain", pond.cell(1, 1, 0), 250);
        check.due("STORE", pond.total(2), 200 + 800 - 150);
        check.due("no animal there", pond.cell(1, 1, 2), -1);
        check.due("deaths", pond.total(6), 1);
        CreaturePond small = new CreaturePond(3, 3);
        put(small, 1, 1, 0, 220);
        for (int i = 0; i < 4; i++) {
            small.tick(50);
        }
        check.due("all of it as grain", small.cell(1, 1, 0) + " " + small.total(2), "20 200");
        CreaturePond step = new CreaturePond(3, 3);
        put(step, 1, 1, 0, 201, 0, 0, 0, 0, 0, 0, 0, 0);
        for (int i = 0; i < 4; i++) {
            step.tick(50);
        }
        check.due("in its cell", step.cell(1, 1, 0), 1);
    }

    private void energyStays() {
        check.part("7 energy is only moved");
        CreaturePond pond = new CreaturePond(5, 4);
        pond.set(30, 4711);
        pond.store(5000);
        for (int i = 0; i < 5; i++) {
            put(pond, i, 0, 2, 200, EAT, ASK, GIVE, 9, STEP, TURN, 1);
            put(pond, i, 1, 0, 200, ASK, EAT, MARK, STEP, ASK, EAT);
        }
        for (int i = 0; i < 30; i++) {
            pond.tick(17);
            check.due("after " + pond.total(7) + " ticks", pond.total(3), 7000);
            check.due("the three", pond.total(0) + pond.total(1) + pond.total(2), 7000);
        }
    }
}

/** What the tests of ponds share: ponds to begin with, and the numbers of a STREAM. */
abstract class Ponds {
    static final Class<IllegalArgumentException> ARGUMENT = IllegalArgumentException.class;
    static final Class<IllegalStateException> STATE = IllegalStateException.class;
    static final Class<IndexOutOfBoundsException> INDEX = IndexOutOfBoundsException.class;

    // The codes of acts, which end what an animal does in a tick.
    static final int TURN = 16;
    static final int STEP = 17;
    static final int EAT = 18;
    static final int GIVE = 19;
    static final int MARK = 20;
    static final int ASK = 21;

    // Numbers of what field tells.
    static final int X = 8;
    static final int Y = 9;
    static final int HEADING = 10;
    static final int ENERGY = 11;
    static final int AGE = 12;
    static final int PLACE = 13;
    static final int LENGTH = 14;
    static final int ASKED = 18;

    // Numbers of what total tells.
    static final int STORE = 2;
    static final int BIRTHS = 5;
    static final int DEATHS = 6;
    static final int STREAM = 8;
    static final int SUNS_TURN = 9;

    final Check check = new Check();

    /** A new animal with a code: its number. */
    static int put(CreaturePond pond, int x, int y, int heading, int energy, int... code) {
        int number = pond.animal(x, y, heading, energy);
        for (int gene : code) {
            pond.code(number, 1, gene);
        }
        return number;
    }

    /** A pond in whose middle one animal, heading up and with 100 energy, has lived for one tick. */
    static CreaturePond after(int... code) {
        CreaturePond pond = new CreaturePond(3, 3);
        put(pond, 1, 1, 0, 100, code);
        pond.tick(1);
        return pond;
    }

    void register(String what, int number, int want, int... code) {
        check.due(what, after(code).field(0, number), want);
    }

    /** All that field tells of an animal. */
    void fields(CreaturePond pond, int number, int... due) {
        for (int w = 0; w < due.length; w++) {
            check.due("field " + w, pond.field(number, w), due[w]);
        }
    }

    void emptyMemory(CreaturePond pond, int number) {
        for (int i = 0; i < 16; i++) {
            check.due("memory " + i, pond.inner(number, false, i), (byte) 0);
        }
    }

    /** All that total tells. */
    void totals(CreaturePond pond, int... due) {
        for (int which = 0; which < due.length; which++) {
            check.due("total " + which, pond.total(which), due[which]);
        }
    }

    /** A pond of 4 by 5 cells in which 0 at 1, 1 and 1 at 2, 1 face each other and ask. */
    static CreaturePond pair(int stream, int energy, int otherEnergy) {
        CreaturePond pond = new CreaturePond(4, 5);
        pond.set(0, stream);
        put(pond, 1, 1, 1, energy, ASK);
        put(pond, 2, 1, 3, otherEnergy, ASK);
        return pond;
    }

    /** More ticks than one call may ask for. */
    static void pass(CreaturePond pond, int ticks) {
        for (int left = ticks; left > 0; left -= 50) {
            pond.tick(Math.min(left, 50));
        }
    }

    /** The STREAM when so many numbers have been taken from it. */
    static int streamAfter(int stream, int numbers) {
        long x = stream;
        for (int i = 0; i < numbers; i++) {
            x = (x * 134775813L + 1L) & 0xFFFFFFFFL;
        }
        return (int) x;
    }

    /** What the STREAM's next number is when so many have been taken from it. */
    static int streamNumber(int stream, int taken) {
        return (int) ((streamAfter(stream, taken) & 0xFFFFFFFFL) / 65536L);
    }

    /** A stream whose next numbers are such that the child's code is cut at from and to, and changed or not. */
    static int streamFor(int start, int length, int from, int to, boolean changed) {
        int x = start;
        for (int i = 0; i < 100000; i++, x += 7919) {
            if (streamNumber(x, 0) % (length + 1) == from && streamNumber(x, 1) % 8 == to - from
                    && streamNumber(x, 2) % 4 == 0 == changed) {
                return x;
            }
        }
        throw new IllegalStateException("no such stream");
    }
}

/** All that a small pond (3 by 3 cells) tells of itself, as a text: some 40 calls, and some 50 for each animal. */
final class Told {
    private Told() {
    }

    static String all(CreaturePond pond) {
        StringBuilder text = new StringBuilder();
        for (int which = 0; which < 10; which++) {
            text.append(" t").append(pond.total(which));
        }
        for (int i = 0; i < 27; i++) {
            text.append(" c").append(pond.cell(i % 3, i / 3 % 3, i / 9));
        }
        for (int number = 0; number < 9; number++) {
            int length = pond.field(number, 14);
            if (length != CreaturePond.NONE) {
                animal(pond, number, length, text);
            }
        }
        return text.toString();
    }

    private static void animal(CreaturePond pond, int number, int length, StringBuilder text) {
        text.append("\n").append(number);
        for (int w = 0; w < 19; w++) {
            text.append(" f").append(pond.field(number, w));
        }
        for (int i = 0; i < 16; i++) {
            text.append(" m").append(pond.inner(number, false, i));
        }
        for (int i = 0; i < length; i++) {
            text.append(" b").append(pond.inner(number, true, i));
        }
    }
}

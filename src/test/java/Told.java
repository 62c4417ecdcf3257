import java.util.function.Supplier;

/** All that a pond tells of itself, as a text. */
final class Told {
    private Told() {
    }

    /** Of a pond of 3 by 3 cells: some 85 calls, and some 50 for each animal. */
    static String all(CreaturePond pond) {
        return all(3, 3, () -> pond);
    }

    /** Of a pond that is made anew for each part, so that no object gets more calls than the 512 that count. */
    static String all(int w, int h, Supplier<CreaturePond> made) {
        return cells(made.get(), w, h) + fields(made.get()) + codes(made.get()) + memories(made.get());
    }

    private static String cells(CreaturePond pond, int w, int h) {
        StringBuilder text = new StringBuilder("totals");
        for (int which = 0; which < 10; which++) {
            text.append(' ').append(pond.total(which));
        }
        for (int i = 0; i < w * h; i++) {
            text.append("\ncell ").append(i);
            for (int what = 0; what < 3; what++) {
                text.append(' ').append(pond.cell(i % w, i / w, what));
            }
        }
        return text.toString();
    }

    private static String fields(CreaturePond pond) {
        StringBuilder text = new StringBuilder();
        for (int number = 0; number < 16; number++) {
            if (pond.field(number, 14) != CreaturePond.NONE) {
                text.append("\nfields of ").append(number);
                for (int w = 0; w < 19; w++) {
                    text.append(' ').append(pond.field(number, w));
                }
            }
        }
        return text.toString();
    }

    private static String codes(CreaturePond pond) {
        StringBuilder text = new StringBuilder();
        for (int number = 0; number < 16; number++) {
            text.append("\ncode of ").append(number).append(' ').append(code(pond, number));
        }
        return text.toString();
    }

    /** The bytes of an animal's code. */
    static String code(CreaturePond pond, int number) {
        StringBuilder text = new StringBuilder();
        int length = pond.field(number, 14);
        for (int i = 0; i < length; i++) {
            text.append(i == 0 ? "" : " ").append(pond.inner(number, true, i));
        }
        return text.toString();
    }

    private static String memories(CreaturePond pond) {
        StringBuilder text = new StringBuilder();
        for (int number = 0; number < 16; number++) {
            if (pond.field(number, 14) != CreaturePond.NONE) {
                text.append("\nmemory of ").append(number);
                for (int i = 0; i < 16; i++) {
                    text.append(' ').append(pond.inner(number, false, i));
                }
            }
        }
        return text.toString();
    }
}

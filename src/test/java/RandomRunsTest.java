import java.util.Random;
import java.util.concurrent.Callable;

/** Random runs of calls, ordinary and wrong ones, whose answers are compared with those of PlainPond. */
public final class RandomRunsTest {
    private static final int RUNS = 1500;
    private static final int CALLS = 512;
    private static final int[] SPECIAL = {0, 1, -1, 16, 15, 20, 50, 51, 250, 251, 1000, 1001, 10000, 10001,
        Integer.MAX_VALUE, Integer.MIN_VALUE};

    private final Check check;
    private final Random random;
    private final CreaturePond pond;
    private final PlainPond plain;
    private final StringBuilder log = new StringBuilder();
    private int calls = 0;

    private RandomRunsTest(Check check, long seed) {
        this.check = check;
        random = new Random(seed);
        int w = random.nextInt(14) - 1;
        int h = random.nextInt(14) - 1;
        check.part("run " + seed + " on " + w + " by " + h);
        pond = new CreaturePond(w, h);
        plain = new PlainPond(w, h);
    }

    public static void main(String[] args) {
        Check check = new Check();
        long[] done = new long[22];
        int births = 0;
        int deaths = 0;
        for (int seed = 1; seed <= RUNS && check.wrong() == 0; seed++) {
            RandomRunsTest run = new RandomRunsTest(check, seed);
            run.play();
            for (int i = 0; i < done.length; i++) {
                done[i] += run.plain.done[i];
            }
            births += run.plain.total(5);
            deaths += run.plain.total(6);
        }
        // Runs in which nothing happens would prove nothing.
        check.part("all runs");
        for (int i = 0; i < done.length; i++) {
            check.due("operation " + i + " was done often", done[i] > 1000, true);
        }
        check.due("there were many births", births > 1000, true);
        check.due("there were many deaths", deaths > 1000, true);
        check.end();
    }

    private void play() {
        for (int i = 0; i < 6; i++) {
            putPair();
        }
        same("set", () -> pond.set(20, 5), () -> plain.set(20, 5));
        while (calls < CALLS - 180) {
            change();
            look();
        }
        lookAtAll();
    }

    private int some(int from, int to) {
        return random.nextInt(12) == 0 ? SPECIAL[random.nextInt(SPECIAL.length)] : from + random.nextInt(to - from + 1);
    }

    /** Two animals that face each other and mostly ask, so that there are births. */
    private void putPair() {
        int x = random.nextInt(12);
        int y = random.nextInt(12);
        int heading = random.nextInt(4);
        int x2 = heading == 1 ? x + 1 : heading == 3 ? x - 1 : x;
        int y2 = heading == 0 ? y - 1 : heading == 2 ? y + 1 : y;
        putAnimal(x, y, heading);
        putAnimal(x2, y2, heading ^ 2);
    }

    private void putAnimal(int x, int y, int heading) {
        int energy = some(20, 400);
        same("animal " + x + " " + y + " " + heading + " " + energy,
                () -> pond.animal(x, y, heading, energy), () -> plain.animal(x, y, heading, energy));
        int number = plain.cell(x, y, 2);
        int parts = 1 + random.nextInt(3);
        for (int i = 0; i < parts; i++) {
            addCode(number);
        }
    }

    private void addCode(int number) {
        int n = some(1, 8);
        long bytes = 0;
        for (int i = 0; i < 8; i++) {
            bytes = bytes << 8 | codeByte() & 255;
        }
        long all = bytes;
        same("code " + number + " " + n + " " + all,
                () -> pond.code(number, n, all), () -> plain.code(number, n, all));
    }

    private int codeByte() {
        switch (random.nextInt(5)) {
            case 0:
                return 21;
            case 1:
                return random.nextInt(256);
            case 2:
                return 16 + random.nextInt(5);
            default:
                return random.nextInt(22);
        }
    }

    private void change() {
        int a = some(0, 15);
        int b = some(-3, 12);
        int c = some(-3, 12);
        switch (random.nextInt(12)) {
            case 0:
                int stream = random.nextInt();
                int sun = some(-1, 51);
                same("set " + sun + " " + stream, () -> pond.set(sun, stream), () -> plain.set(sun, stream));
                break;
            case 1:
                int n = some(0, 3000);
                same("store " + n, () -> pond.store(n), () -> plain.store(n));
                break;
            case 2:
                int g = some(0, 250);
                same("grain " + b + " " + c + " " + g, () -> pond.grain(b, c, g), () -> plain.grain(b, c, g));
                break;
            case 3:
                putPair();
                break;
            case 4:
                putAnimal(b, c, some(0, 3));
                break;
            case 5:
                addCode(a);
                break;
            case 6:
                same("keep", () -> {
                    pond.keep();
                    return true;
                }, () -> {
                    plain.keep();
                    return true;
                });
                break;
            case 7:
                if (random.nextInt(3) == 0) {
                    same("back", pond::back, plain::back);
                }
                break;
            default:
                int ticks = random.nextInt(3) > 0 ? some(0, 5) : some(0, 50);
                int energy = plain.total(3);
                same("tick " + ticks, () -> pond.tick(ticks), () -> plain.tick(ticks));
                same("total 3, never made or lost by time", () -> pond.total(3), () -> energy);
                break;
        }
    }

    private void look() {
        int a = some(0, 15);
        int x = some(-3, 12);
        int y = some(-3, 12);
        int w = some(0, 2);
        int f = some(0, 18);
        int i = some(0, 19);
        int t = some(0, 9);
        boolean code = random.nextBoolean();
        same("cell " + x + " " + y + " " + w, () -> pond.cell(x, y, w), () -> plain.cell(x, y, w));
        same("field " + a + " " + f, () -> pond.field(a, f), () -> plain.field(a, f));
        same("inner " + a + " " + code + " " + i, () -> pond.inner(a, code, i), () -> plain.inner(a, code, i));
        same("total " + t, () -> pond.total(t), () -> plain.total(t));
        same("differ", pond::differ, plain::differ);
    }

    private void lookAtAll() {
        for (int t = 0; t < 10; t++) {
            int which = t;
            same("total " + t, () -> pond.total(which), () -> plain.total(which));
        }
        for (int i = 0; calls < CALLS; i++) {
            int number = i % 16;
            int what = i / 16 % 19;
            same("field " + number + " " + what, () -> pond.field(number, what), () -> plain.field(number, what));
        }
    }

    private void same(String call, Callable<Object> one, Callable<Object> other) {
        if (calls >= CALLS) {
            return;
        }
        calls++;
        Object got = answer(one);
        Object want = answer(other);
        log.append(call).append(" -> ").append(want).append('\n');
        if (!got.equals(want) && check.wrong() == 0) {
            System.out.print(log);
        }
        check.due("call " + calls + ", " + call, got, want);
    }

    private static Object answer(Callable<Object> call) {
        try {
            return call.call();
        } catch (Exception e) {
            return "throws." + e.getClass().getSimpleName();
        }
    }
}

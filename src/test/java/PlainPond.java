import java.util.ArrayList;
import java.util.Arrays;
import java.util.List;
import java.util.TreeMap;

/**
 * A second telling of the document, written apart from the class and in another way (positions instead of cell
 * numbers, lists and maps instead of rows), so that random runs can be compared.
 */
final class PlainPond {
    private static final String[] OPERANDS = {
        "", "rv", "rv", "rv", "rv", "rv", "rv", "r", "r", "rv", "rv", "v", "rv", "rv", "rv", "rv",
        "v", "", "", "v", "r", ""};

    static final class Beast {
        int x, y, heading, energy, age, place, generation;
        int mother = -1, father = -1;
        boolean asked;
        byte[] registers = new byte[8];
        byte[] memory = new byte[16];
        List<Byte> code = new ArrayList<>();

        Beast copy() {
            Beast b = new Beast();
            b.x = x; b.y = y; b.heading = heading; b.energy = energy; b.age = age; b.place = place;
            b.generation = generation; b.mother = mother; b.father = father; b.asked = asked;
            b.registers = registers.clone();
            b.memory = memory.clone();
            b.code = new ArrayList<>(code);
            return b;
        }
    }

    static final class State {
        int[][] grain;
        byte[][] mark;
        TreeMap<Integer, Beast> beasts = new TreeMap<>();
        int store, sun, stream, turn, births, deaths, ticks;

        State copy() {
            State s = new State();
            s.grain = Arrays.stream(grain).map(int[]::clone).toArray(int[][]::new);
            s.mark = Arrays.stream(mark).map(byte[]::clone).toArray(byte[][]::new);
            beasts.forEach((number, beast) -> s.beasts.put(number, beast.copy()));
            s.store = store; s.sun = sun; s.stream = stream; s.turn = turn;
            s.births = births; s.deaths = deaths; s.ticks = ticks;
            return s;
        }
    }

    final int w, h;
    final long[] done = new long[22];
    State s = new State();
    State kept;

    PlainPond(int w, int h) {
        this.w = w < 3 ? 3 : w > 10 ? 10 : w;
        this.h = h < 3 ? 3 : h > 10 ? 10 : h;
        s.grain = new int[this.w][this.h];
        s.mark = new byte[this.w][this.h];
    }

    private static int round(int a, int n) {
        int left = a % n;
        return left < 0 ? left + n : left;
    }

    private int numberAt(int x, int y) {
        for (int number : s.beasts.keySet()) {
            Beast b = s.beasts.get(number);
            if (b.x == round(x, w) && b.y == round(y, h)) {
                return number;
            }
        }
        return -1;
    }

    private int nearX(Beast b, int heading) {
        return round(heading == 1 ? b.x + 1 : heading == 3 ? b.x - 1 : b.x, w);
    }

    private int nearY(Beast b, int heading) {
        return round(heading == 0 ? b.y - 1 : heading == 2 ? b.y + 1 : b.y, h);
    }

    private int free() {
        int number = 0;
        while (s.beasts.containsKey(number)) {
            number++;
        }
        return number;
    }

    boolean set(int sun, int stream) {
        if (sun >= 0 && sun <= 50) {
            s.sun = sun;
            s.stream = stream;
            return true;
        }
        return false;
    }

    boolean store(int n) {
        if (n >= 0 && n <= 10000 && s.store + n <= 1000000) {
            s.store += n;
            return true;
        }
        return false;
    }

    boolean grain(int x, int y, int g) {
        if (g >= 0 && g <= 250) {
            s.grain[round(x, w)][round(y, h)] = g;
            return true;
        }
        return false;
    }

    int animal(int x, int y, int heading, int energy) {
        if (heading < 0 || heading > 3 || energy < 1 || energy > 1000) {
            throw new IllegalArgumentException();
        }
        if (numberAt(x, y) >= 0 || s.beasts.size() >= 16) {
            throw new IllegalStateException();
        }
        Beast b = new Beast();
        b.x = round(x, w);
        b.y = round(y, h);
        b.heading = heading;
        b.energy = energy;
        int number = free();
        s.beasts.put(number, b);
        return number;
    }

    int code(int a, int n, long bytes) {
        if (n < 1 || n > 8 || !s.beasts.containsKey(a)) {
            throw new IllegalArgumentException();
        }
        List<Byte> code = s.beasts.get(a).code;
        if (code.size() + n > 20) {
            throw new IllegalStateException();
        }
        int end = code.size();
        for (int i = 0; i < n; i++) {
            code.add(end, (byte) (bytes & 255));
            bytes >>>= 8;
        }
        return code.size();
    }

    int tick(int n) {
        if (n < 0 || n > 50) {
            throw new IllegalArgumentException();
        }
        for (int i = 0; i < n; i++) {
            oneTick();
        }
        return s.beasts.size();
    }

    private void oneTick() {
        for (int i = 0; i < s.sun; i++) {
            if (s.store <= 0) {
                break;
            }
            int x = s.turn % w;
            int y = s.turn / w;
            if (s.grain[x][y] < 250) {
                s.grain[x][y] += 1;
                s.store -= 1;
            }
            s.turn = (s.turn + 1) % (w * h);
        }
        for (Beast b : s.beasts.values()) {
            b.asked = false;
        }
        for (Beast b : s.beasts.values()) {
            b.age++;
            pay(b, 1);
            for (int i = 0; i < 8 && b.energy > 0 && !b.code.isEmpty(); i++) {
                if (operation(b) >= 16) {
                    break;
                }
            }
        }
        breeding();
        for (int number : new ArrayList<>(s.beasts.keySet())) {
            Beast b = s.beasts.get(number);
            if (b.energy <= 0 || b.age == 200) {
                s.beasts.remove(number);
                s.deaths++;
                for (int e = b.energy; e > 0; e--) {
                    if (s.grain[b.x][b.y] < 250) {
                        s.grain[b.x][b.y]++;
                    } else {
                        s.store++;
                    }
                }
            }
        }
        s.ticks++;
    }

    private void pay(Beast b, int n) {
        int paid = n < b.energy ? n : b.energy;
        b.energy -= paid;
        s.store += paid;
    }

    private int operation(Beast b) {
        int length = b.code.size();
        int p = b.place;
        int op = (b.code.get(p) & 255) % 22;
        done[op]++;
        int r = 0;
        int v = 0;
        for (char kind : OPERANDS[op].toCharArray()) {
            p = (p + 1) % length;
            if (kind == 'r') {
                r = b.code.get(p);
            } else {
                v = b.code.get(p);
            }
        }
        b.place = (p + 1) % length;
        byte[] reg = b.registers;
        int R = r & 7;
        int V = v & 7;
        Beast other = s.beasts.get(numberAt(nearX(b, b.heading), nearY(b, b.heading)));
        int ax = nearX(b, b.heading);
        int ay = nearY(b, b.heading);
        if (op == 1) reg[R] = (byte) v;
        if (op == 2) reg[R] = reg[V];
        if (op == 3) reg[R] += reg[V];
        if (op == 4) reg[R] -= reg[V];
        if (op == 5) reg[R] &= reg[V];
        if (op == 6) reg[R] ^= reg[V];
        if (op == 7) reg[R] += reg[R];
        if (op == 8) reg[R] = (byte) ((reg[R] < 0 ? reg[R] + 256 : reg[R]) / 2);
        if (op == 9) reg[R] = b.memory[round(reg[V], 16)];
        if (op == 10) b.memory[round(reg[V], 16)] = reg[R];
        if (op == 11 || op == 12 && reg[R] == 0 || op == 13 && reg[R] < 0) {
            b.place = (v < 0 ? v + 256 : v) % length;
        }
        if (op == 14) {
            int[] seen = {s.grain[ax][ay] / 2, other == null ? 0 : 1, s.mark[ax][ay], other == null ? -1 : other.heading};
            reg[R] = (byte) seen[round(v, 4)];
        }
        if (op == 15) {
            int[] seen = {b.energy > 127 ? 127 : b.energy, b.age % 128, b.heading, s.grain[b.x][b.y] / 2};
            reg[R] = (byte) seen[round(v, 4)];
        }
        if (op == 16) b.heading = round(b.heading + v, 4);
        if (op == 17) {
            pay(b, 2);
            if (other == null) {
                b.x = ax;
                b.y = ay;
            }
        }
        if (op == 18) {
            for (int i = 0; i < 30 && s.grain[b.x][b.y] > 0; i++) {
                s.grain[b.x][b.y]--;
                b.energy++;
            }
        }
        if (op == 19 && other != null) {
            for (int i = 0; i < round(v, 64) && b.energy > 0; i++) {
                b.energy--;
                other.energy++;
            }
        }
        if (op == 20) s.mark[b.x][b.y] = reg[R];
        if (op == 21) b.asked = true;
        return op;
    }

    private int next() {
        int number = (int) ((s.stream & 0xffffffffL) / 65536);
        s.stream = (int) ((long) s.stream * 134775813L + 1L);
        return number;
    }

    private void breeding() {
        for (int i : new ArrayList<>(s.beasts.keySet())) {
            for (int k : new ArrayList<>(s.beasts.keySet())) {
                Beast p = s.beasts.get(i);
                Beast q = s.beasts.get(k);
                boolean face = nearX(p, p.heading) == q.x && nearY(p, p.heading) == q.y
                        && nearX(q, q.heading) == p.x && nearY(q, q.heading) == p.y;
                if (i < k && p.asked && q.asked && face && p.energy >= 40 && q.energy >= 40) {
                    child(i, k, p, q);
                }
            }
        }
    }

    private void child(int i, int k, Beast p, Beast q) {
        for (int heading = 0; heading < 4; heading++) {
            int x = nearX(p, heading);
            int y = nearY(p, heading);
            if (numberAt(x, y) >= 0) {
                continue;
            }
            if (s.beasts.size() >= 16) {
                return;
            }
            Beast c = new Beast();
            c.x = x;
            c.y = y;
            c.heading = p.heading;
            c.mother = i;
            c.father = k;
            c.generation = 1 + Math.max(p.generation, q.generation);
            for (Beast parent : List.of(p, q)) {
                pay(parent, 10);
                c.energy += parent.energy / 2;
                parent.energy -= parent.energy / 2;
            }
            int from = next() % (p.code.size() + 1);
            int to = from + next() % 8;
            for (int n = 0; n < 60; n++) {
                List<Byte> source = n >= from && n < to ? q.code : p.code;
                if (n < source.size()) {
                    c.code.add(source.get(n));
                }
            }
            if (next() % 4 == 0 && !c.code.isEmpty()) {
                int index = next() % c.code.size();
                c.code.set(index, (byte) next());
            }
            s.beasts.put(free(), c);
            s.births++;
            return;
        }
    }

    int cell(int x, int y, int what) {
        return what == 0 ? s.grain[round(x, w)][round(y, h)]
                : what == 1 ? s.mark[round(x, w)][round(y, h)] : what == 2 ? numberAt(x, y) : -1;
    }

    int field(int a, int what) {
        Beast b = s.beasts.get(a);
        if (b == null || what < 0 || what > 18) {
            return -1;
        }
        int[] all = {b.registers[0], b.registers[1], b.registers[2], b.registers[3], b.registers[4], b.registers[5],
            b.registers[6], b.registers[7], b.x, b.y, b.heading, b.energy, b.age, b.place, b.code.size(), b.mother,
            b.father, b.generation, b.asked ? 1 : 0};
        return all[what];
    }

    byte inner(int a, boolean code, int i) {
        Beast b = s.beasts.get(a);
        if (b == null || i < 0 || i >= (code ? b.code.size() : 16)) {
            throw new IndexOutOfBoundsException();
        }
        return code ? b.code.get(i) : b.memory[i];
    }

    int total(int which) {
        int energy = s.beasts.values().stream().mapToInt(b -> b.energy).sum();
        int grain = Arrays.stream(s.grain).flatMapToInt(Arrays::stream).sum();
        int[] all = {energy, grain, s.store, energy + grain + s.store, s.beasts.size(), s.births, s.deaths, s.ticks,
            s.stream, s.turn};
        return which >= 0 && which < all.length ? all[which] : -1;
    }

    void keep() {
        kept = s.copy();
    }

    int differ() {
        if (kept == null) {
            throw new IllegalStateException();
        }
        for (int i = 0; i < w * h; i++) {
            if (!told(s, i % w, i / w).equals(told(kept, i % w, i / w))) {
                return i;
            }
        }
        return -1;
    }

    private static String told(State state, int x, int y) {
        StringBuilder text = new StringBuilder();
        text.append(state.grain[x][y]).append(' ').append(state.mark[x][y]);
        state.beasts.forEach((number, b) -> {
            if (b.x == x && b.y == y) {
                text.append(' ').append(number).append(' ').append(b.heading).append(' ').append(b.energy);
            }
        });
        return text.toString();
    }

    boolean back() {
        if (kept == null) {
            return false;
        }
        s = kept.copy();
        return true;
    }
}

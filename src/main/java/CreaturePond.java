/**
 * A pond on a ring of rings in which small animals live by their code. Energy is only moved by time: between the
 * animals, the grain of the cells and the store.
 */
public final class CreaturePond {
    /** There is none. */
    public static final int NONE = -1;

    private static final int LEAST_SIDE = 3;
    private static final int MOST_SIDE = 10;
    private static final int HEADINGS = 4;
    private static final int MOST_ANIMALS = 16;
    private static final int MOST_CODE = 20;
    private static final int REGISTERS = 8;
    private static final int MEMORY = 16;
    private static final int MOST_GRAIN = 250;
    private static final int MOST_SUN = 50;
    private static final int MOST_GIFT = 10000;
    private static final int MOST_STORE = 1000000;
    private static final int MOST_FIRST_ENERGY = 1000;
    private static final int MOST_BYTES_A_CALL = 8;
    private static final int MOST_TICKS_A_CALL = 50;

    private final Shape shape;
    private final Pond now;
    private final Pond kept;
    private final Mind mind;
    private final Breeding breeding;
    private boolean isKept;

    public CreaturePond(int w, int h) {
        shape = new Shape(Math.max(LEAST_SIDE, Math.min(MOST_SIDE, w)), Math.max(LEAST_SIDE, Math.min(MOST_SIDE, h)));
        now = new Pond(shape);
        kept = new Pond(shape);
        mind = new Mind(now);
        breeding = new Breeding(now);
    }

    public boolean set(int sun, int stream) {
        if (sun < 0 || sun > MOST_SUN) {
            return false;
        }
        now.sun = sun;
        now.stream = stream;
        return true;
    }

    public boolean store(int n) {
        if (n < 0 || n > MOST_GIFT || now.stored + n > MOST_STORE) {
            return false;
        }
        now.stored += n;
        return true;
    }

    public boolean grain(int x, int y, int g) {
        if (g < 0 || g > MOST_GRAIN) {
            return false;
        }
        now.grains[shape.cellAt(x, y)] = g;
        return true;
    }

    public int animal(int x, int y, int heading, int energy) throws IllegalArgumentException, IllegalStateException {
        if (heading < 0 || heading >= HEADINGS || energy < 1 || energy > MOST_FIRST_ENERGY) {
            throw new IllegalArgumentException("heading is 0 to 3, energy 1 to 1000");
        }
        int home = shape.cellAt(x, y);
        int number = now.freeNumber();
        if (now.dwellers[home] != NONE || number == NONE) {
            throw new IllegalStateException("there is an animal in the cell, or there are 16");
        }
        now.settle(number, home, heading, energy);
        return number;
    }

    public int code(int a, int n, long bytes) throws IllegalArgumentException, IllegalStateException {
        if (n < 1 || n > MOST_BYTES_A_CALL || !now.has(a)) {
            throw new IllegalArgumentException("n is 1 to 8, and the animal must live");
        }
        Animal one = now.animals[a];
        if (one.length + n > MOST_CODE) {
            throw new IllegalStateException("a code has at most 20 bytes");
        }
        for (int left = n - 1; left >= 0; left--) {
            one.grow((byte) (bytes >> (8 * left)));
        }
        return one.length;
    }

    public int tick(int n) throws IllegalArgumentException {
        if (n < 0 || n > MOST_TICKS_A_CALL) {
            throw new IllegalArgumentException("n is 0 to 50");
        }
        for (int passed = 0; passed < n; passed++) {
            now.shine();
            mind.moveAll();
            breeding.breedAll();
            now.endDead();
            now.ticks++;
        }
        return now.countAnimals();
    }

    public int cell(int x, int y, int w) {
        int place = shape.cellAt(x, y);
        switch (w) {
            case 0:
                return now.grains[place];
            case 1:
                return now.marks[place];
            case 2:
                return now.dwellers[place];
            default:
                return NONE;
        }
    }

    public int field(int a, int w) {
        if (!now.has(a)) {
            return NONE;
        }
        Animal one = now.animals[a];
        if (w >= 0 && w < REGISTERS) {
            return one.registers[w];
        }
        switch (w) {
            case 8:
                return shape.columnOf(one.home);
            case 9:
                return shape.rowOf(one.home);
            default:
                return one.trait(w);
        }
    }

    public byte inner(int a, boolean code, int i) throws IndexOutOfBoundsException {
        if (!now.has(a)) {
            throw new IndexOutOfBoundsException("there is no such animal");
        }
        Animal one = now.animals[a];
        int size = code ? one.length : MEMORY;
        if (i < 0 || i >= size) {
            throw new IndexOutOfBoundsException("there is no such byte");
        }
        return code ? one.genes[i] : one.memory[i];
    }

    public int total(int which) {
        switch (which) {
            case 0:
                return now.energyOfAll();
            case 1:
                return now.grainOfAll();
            case 2:
                return now.stored;
            case 3:
                return now.energyOfAll() + now.grainOfAll() + now.stored;
            case 4:
                return now.countAnimals();
            case 5:
                return now.births;
            case 6:
                return now.deaths;
            case 7:
                return now.ticks;
            case 8:
                return now.stream;
            case 9:
                return now.turn;
            default:
                return NONE;
        }
    }

    public void keep() {
        kept.copyFrom(now);
        isKept = true;
    }

    public int differ() throws IllegalStateException {
        if (!isKept) {
            throw new IllegalStateException("nothing is kept");
        }
        return now.firstOther(kept);
    }

    public boolean back() {
        if (!isKept) {
            return false;
        }
        now.copyFrom(kept);
        return true;
    }

    /** Which cells a pond has, and how they lie: x and y go round. */
    private static final class Shape {
        private static final int[] STEP_X = {0, 1, 0, -1};
        private static final int[] STEP_Y = {-1, 0, 1, 0};

        private final int width;
        private final int height;
        private final int cells;
        /** For each cell the next ones by heading, as they are asked for in every operation that looks or goes. */
        private final int[] neighbours;

        private Shape(int width, int height) {
            this.width = width;
            this.height = height;
            cells = width * height;
            neighbours = new int[cells * HEADINGS];
            for (int i = 0; i < neighbours.length; i++) {
                int place = i / HEADINGS;
                int heading = i % HEADINGS;
                neighbours[i] = cellAt(columnOf(place) + STEP_X[heading], rowOf(place) + STEP_Y[heading]);
            }
        }

        private int cellAt(int x, int y) {
            return Math.floorMod(x, width) + Math.floorMod(y, height) * width;
        }

        private int columnOf(int place) {
            return place % width;
        }

        private int rowOf(int place) {
            return place / width;
        }

        private int nextTo(int place, int heading) {
            return neighbours[place * HEADINGS + heading];
        }
    }

    /** One of the sixteen animals that a pond has room for; it is used again for the next one of its number. */
    private static final class Animal {
        private final byte[] registers = new byte[REGISTERS];
        private final byte[] memory = new byte[MEMORY];
        private final byte[] genes = new byte[MOST_CODE];
        private boolean lives;
        private boolean asked;
        private int home;
        private int heading;
        private int energy;
        private int age;
        private int length;
        private int place;
        private int firstParent;
        private int secondParent;
        private int generation;

        /** Makes it a new animal, so that nothing is left of one that had its number before. */
        private void begin(int newHome, int newHeading, int newEnergy) {
            for (int i = 0; i < REGISTERS; i++) {
                registers[i] = 0;
            }
            for (int i = 0; i < MEMORY; i++) {
                memory[i] = 0;
            }
            lives = true;
            asked = false;
            home = newHome;
            heading = newHeading;
            energy = newEnergy;
            age = 0;
            length = 0;
            place = 0;
            firstParent = NONE;
            secondParent = NONE;
            generation = 0;
        }

        private void copyFrom(Animal other) {
            System.arraycopy(other.registers, 0, registers, 0, REGISTERS);
            System.arraycopy(other.memory, 0, memory, 0, MEMORY);
            System.arraycopy(other.genes, 0, genes, 0, MOST_CODE);
            lives = other.lives;
            asked = other.asked;
            home = other.home;
            heading = other.heading;
            energy = other.energy;
            age = other.age;
            length = other.length;
            place = other.place;
            firstParent = other.firstParent;
            secondParent = other.secondParent;
            generation = other.generation;
        }

        private void grow(byte gene) {
            if (length < MOST_CODE) {
                genes[length] = gene;
                length++;
            }
        }

        /** The code goes on at its beginning behind its end. */
        private int wrapped(int position) {
            return length > 0 ? position % length : 0;
        }

        private byte geneBehindPlace(int distance) {
            return genes[wrapped(place + distance)];
        }

        private int trait(int which) {
            switch (which) {
                case 10:
                    return heading;
                case 11:
                    return energy;
                case 12:
                    return age;
                case 13:
                    return place;
                case 14:
                    return length;
                case 15:
                    return firstParent;
                case 16:
                    return secondParent;
                case 17:
                    return generation;
                case 18:
                    return asked ? 1 : 0;
                default:
                    return NONE;
            }
        }
    }

    /** All that a pond is at one time: two of them are the pond as it is now and the kept one. */
    private static final class Pond {
        private static final int OLDEST = 200;
        private static final int STREAM_FACTOR = 134775813;

        private final Shape shape;
        private final int[] grains;
        private final byte[] marks;
        private final int[] dwellers;
        private final Animal[] animals = new Animal[MOST_ANIMALS];
        private int stored;
        private int sun;
        private int stream;
        private int turn;
        private int births;
        private int deaths;
        private int ticks;

        private Pond(Shape shape) {
            this.shape = shape;
            grains = new int[shape.cells];
            marks = new byte[shape.cells];
            dwellers = new int[shape.cells];
            for (int place = 0; place < shape.cells; place++) {
                dwellers[place] = NONE;
            }
            for (int number = 0; number < MOST_ANIMALS; number++) {
                animals[number] = new Animal();
            }
        }

        private void copyFrom(Pond other) {
            System.arraycopy(other.grains, 0, grains, 0, shape.cells);
            System.arraycopy(other.marks, 0, marks, 0, shape.cells);
            System.arraycopy(other.dwellers, 0, dwellers, 0, shape.cells);
            for (int number = 0; number < MOST_ANIMALS; number++) {
                animals[number].copyFrom(other.animals[number]);
            }
            stored = other.stored;
            sun = other.sun;
            stream = other.stream;
            turn = other.turn;
            births = other.births;
            deaths = other.deaths;
            ticks = other.ticks;
        }

        private int aheadOf(Animal one) {
            return shape.neighbours[one.home * HEADINGS + one.heading];
        }

        private boolean has(int number) {
            return number >= 0 && number < MOST_ANIMALS && animals[number].lives;
        }

        private int freeNumber() {
            for (int number = 0; number < MOST_ANIMALS; number++) {
                if (!animals[number].lives) {
                    return number;
                }
            }
            return NONE;
        }

        private int countAnimals() {
            int count = 0;
            for (int number = 0; number < MOST_ANIMALS; number++) {
                count += animals[number].lives ? 1 : 0;
            }
            return count;
        }

        private int energyOfAll() {
            int sum = 0;
            for (int number = 0; number < MOST_ANIMALS; number++) {
                sum += animals[number].lives ? animals[number].energy : 0;
            }
            return sum;
        }

        private int grainOfAll() {
            int sum = 0;
            for (int amount : grains) {
                sum += amount;
            }
            return sum;
        }

        private Animal settle(int number, int home, int heading, int energy) {
            Animal one = animals[number];
            one.begin(home, heading, energy);
            dwellers[home] = number;
            return one;
        }

        private void pay(Animal one, int price) {
            int paid = Math.min(price, one.energy);
            one.energy -= paid;
            stored += paid;
        }

        private int nextNumber() {
            int next = stream >>> 16;
            stream = stream * STREAM_FACTOR + 1;
            return next;
        }

        private void shine() {
            for (int given = 0; given < sun && stored > 0; given++) {
                if (grains[turn] < MOST_GRAIN) {
                    grains[turn]++;
                    stored--;
                }
                turn = turn + 1 < shape.cells ? turn + 1 : 0;
            }
        }

        private void endDead() {
            for (int number = 0; number < MOST_ANIMALS; number++) {
                Animal one = animals[number];
                if (one.lives && (one.energy == 0 || one.age >= OLDEST)) {
                    end(one);
                }
            }
        }

        private void end(Animal one) {
            int whole = grains[one.home] + one.energy;
            int left = Math.min(whole, MOST_GRAIN);
            grains[one.home] = left;
            stored += whole - left;
            dwellers[one.home] = NONE;
            one.lives = false;
            deaths++;
        }

        private int firstOther(Pond other) {
            for (int place = 0; place < shape.cells; place++) {
                if (grains[place] != other.grains[place] || marks[place] != other.marks[place]
                        || hasOtherDweller(other, place)) {
                    return place;
                }
            }
            return NONE;
        }

        private boolean hasOtherDweller(Pond other, int place) {
            int number = dwellers[place];
            if (number != other.dwellers[place]) {
                return true;
            }
            if (number == NONE) {
                return false;
            }
            Animal mine = animals[number];
            Animal theirs = other.animals[number];
            return mine.heading != theirs.heading || mine.energy != theirs.energy;
        }
    }

    /** Lets the animals of a pond do the operations of their codes. */
    private static final class Mind {
        private static final int OPERATIONS = 22;
        private static final int MOST_OPERATIONS_A_TICK = 8;
        private static final int STEP_PRICE = 2;
        private static final int MOUTHFUL = 30;
        private static final int MOST_SEEN = 127;

        private static final int NOTHING = 0;
        private static final int LOAD = 1;
        private static final int COPY = 2;
        private static final int ADD = 3;
        private static final int SUBTRACT = 4;
        private static final int AND = 5;
        private static final int XOR = 6;
        private static final int DOUBLE = 7;
        private static final int HALVE = 8;
        private static final int REMEMBER = 9;
        private static final int MEMORISE = 10;
        private static final int JUMP = 11;
        private static final int JUMP_IF_ZERO = 12;
        private static final int JUMP_IF_BELOW = 13;
        private static final int LOOK_AHEAD = 14;
        private static final int LOOK_INSIDE = 15;
        private static final int TURN = 16;
        private static final int STEP = 17;
        private static final int EAT = 18;
        private static final int GIVE = 19;
        private static final int LEAVE_MARK = 20;
        private static final int ASK = 21;
        private static final int FIRST_ACT = TURN;

        /** How many operands each operation has. */
        private static final int[] OPERANDS = {0, 2, 2, 2, 2, 2, 2, 1, 1, 2, 2, 1, 2, 2, 2, 2, 1, 0, 0, 1, 1, 0};

        private final Pond pond;

        private Mind(Pond pond) {
            this.pond = pond;
        }

        private void moveAll() {
            for (int number = 0; number < MOST_ANIMALS; number++) {
                if (pond.animals[number].lives) {
                    move(pond.animals[number]);
                }
            }
        }

        private void move(Animal one) {
            one.asked = false;
            one.age++;
            pond.pay(one, 1);
            if (one.energy == 0 || one.length == 0) {
                return;
            }
            // Only acts move energy, and an act is the last operation of a tick: energy is not looked at again.
            boolean acted = false;
            for (int done = 0; done < MOST_OPERATIONS_A_TICK && !acted; done++) {
                acted = operate(one);
            }
        }

        /** Answers whether the operation was an act. */
        private boolean operate(Animal one) {
            int operation = (one.geneBehindPlace(0) & 255) % OPERATIONS;
            byte first = one.geneBehindPlace(1);
            byte second = one.geneBehindPlace(2);
            one.place = one.wrapped(one.place + 1 + OPERANDS[operation]);
            if (operation >= FIRST_ACT) {
                act(one, operation, first);
                return true;
            }
            switch (operation) {
                case NOTHING:
                    break;
                case MEMORISE:
                    one.memory[memoryIndex(one, second)] = one.registers[first & 7];
                    break;
                case JUMP:
                    jump(one, first);
                    break;
                case JUMP_IF_ZERO:
                    if (one.registers[first & 7] == 0) {
                        jump(one, second);
                    }
                    break;
                case JUMP_IF_BELOW:
                    if (one.registers[first & 7] < 0) {
                        jump(one, second);
                    }
                    break;
                default:
                    one.registers[first & 7] = (byte) reckon(one, operation, first, second);
                    break;
            }
            return false;
        }

        private int memoryIndex(Animal one, byte v) {
            return one.registers[v & 7] & 15;
        }

        private void jump(Animal one, byte target) {
            one.place = one.wrapped(target & 255);
        }

        /** What register r becomes. */
        private int reckon(Animal one, int operation, byte r, byte v) {
            int own = one.registers[r & 7];
            int other = one.registers[v & 7];
            switch (operation) {
                case LOAD:
                    return v;
                case COPY:
                    return other;
                case ADD:
                    return own + other;
                case SUBTRACT:
                    return own - other;
                case AND:
                    return own & other;
                case XOR:
                    return own ^ other;
                case DOUBLE:
                    return own * 2;
                case HALVE:
                    return (own & 255) >> 1;
                case REMEMBER:
                    return one.memory[memoryIndex(one, v)];
                case LOOK_AHEAD:
                    return seenAhead(one, v & 3);
                case LOOK_INSIDE:
                    return seenInside(one, v & 3);
                default:
                    return own;
            }
        }

        private int seenAhead(Animal one, int what) {
            int ahead = pond.aheadOf(one);
            int other = pond.dwellers[ahead];
            switch (what) {
                case 0:
                    return pond.grains[ahead] >> 1;
                case 1:
                    return other == NONE ? 0 : 1;
                case 2:
                    return pond.marks[ahead];
                default:
                    return other == NONE ? -1 : pond.animals[other].heading;
            }
        }

        private int seenInside(Animal one, int what) {
            switch (what) {
                case 0:
                    return Math.min(one.energy, MOST_SEEN);
                case 1:
                    return one.age & 127;
                case 2:
                    return one.heading;
                default:
                    return pond.grains[one.home] >> 1;
            }
        }

        private void act(Animal one, int operation, byte operand) {
            switch (operation) {
                case TURN:
                    one.heading = (one.heading + operand) & 3;
                    break;
                case STEP:
                    pond.pay(one, STEP_PRICE);
                    goAhead(one);
                    break;
                case EAT:
                    eat(one);
                    break;
                case GIVE:
                    give(one, operand & 63);
                    break;
                case LEAVE_MARK:
                    pond.marks[one.home] = one.registers[operand & 7];
                    break;
                case ASK:
                    one.asked = true;
                    break;
                default:
                    break;
            }
        }

        private void goAhead(Animal one) {
            int ahead = pond.aheadOf(one);
            if (pond.dwellers[ahead] == NONE) {
                pond.dwellers[ahead] = pond.dwellers[one.home];
                pond.dwellers[one.home] = NONE;
                one.home = ahead;
            }
        }

        private void eat(Animal one) {
            int eaten = Math.min(MOUTHFUL, pond.grains[one.home]);
            pond.grains[one.home] -= eaten;
            one.energy += eaten;
        }

        private void give(Animal one, int most) {
            int other = pond.dwellers[pond.aheadOf(one)];
            if (other != NONE) {
                int gift = Math.min(most, one.energy);
                one.energy -= gift;
                pond.animals[other].energy += gift;
            }
        }
    }

    /** Lets the pairs of a pond that asked have their children. */
    private static final class Breeding {
        private static final int LEAST_ENERGY = 40;
        private static final int PRICE = 10;
        private static final int MOST_TAKEN = 8;
        private static final int CHANGE_ONE_OF = 4;

        private final Pond pond;

        private Breeding(Pond pond) {
            this.pond = pond;
        }

        private void breedAll() {
            for (int lesser = 0; lesser < MOST_ANIMALS; lesser++) {
                int greater = greaterOfPair(lesser);
                if (greater != NONE) {
                    breed(lesser, greater);
                }
            }
        }

        /** The other one of the pair in which this number is the lesser one, or NONE. */
        private int greaterOfPair(int lesser) {
            Animal one = pond.animals[lesser];
            if (!one.lives || !one.asked) {
                return NONE;
            }
            int greater = pond.dwellers[pond.aheadOf(one)];
            if (greater <= lesser) {
                return NONE;
            }
            Animal other = pond.animals[greater];
            return other.asked && pond.aheadOf(other) == one.home ? greater : NONE;
        }

        private void breed(int lesser, int greater) {
            Animal first = pond.animals[lesser];
            Animal second = pond.animals[greater];
            int nest = firstFreeAround(first.home);
            int number = pond.freeNumber();
            if (first.energy < LEAST_ENERGY || second.energy < LEAST_ENERGY || nest == NONE || number == NONE) {
                return;
            }
            Animal child = pond.settle(number, nest, first.heading, payAndHalve(first) + payAndHalve(second));
            child.firstParent = lesser;
            child.secondParent = greater;
            child.generation = Math.max(first.generation, second.generation) + 1;
            mixCode(child, first, second);
            changeCode(child);
            pond.births++;
        }

        private int firstFreeAround(int home) {
            for (int heading = 0; heading < HEADINGS; heading++) {
                int near = pond.shape.nextTo(home, heading);
                if (pond.dwellers[near] == NONE) {
                    return near;
                }
            }
            return NONE;
        }

        /** What the parent gives to its child. */
        private int payAndHalve(Animal parent) {
            pond.pay(parent, PRICE);
            int half = parent.energy / 2;
            parent.energy -= half;
            return half;
        }

        private void mixCode(Animal child, Animal first, Animal second) {
            int from = pond.nextNumber() % (first.length + 1);
            int to = from + pond.nextNumber() % MOST_TAKEN;
            growFrom(child, first, 0, from);
            growFrom(child, second, from, to);
            growFrom(child, first, to, first.length);
        }

        private void growFrom(Animal child, Animal parent, int from, int to) {
            int end = Math.min(to, parent.length);
            for (int i = from; i < end; i++) {
                child.grow(parent.genes[i]);
            }
        }

        private void changeCode(Animal child) {
            if (pond.nextNumber() % CHANGE_ONE_OF == 0 && child.length > 0) {
                int index = child.wrapped(pond.nextNumber());
                child.genes[index] = (byte) pond.nextNumber();
            }
        }
    }
}

/** The edges that the promises 28 to 36 name. */
abstract class CoreEdges extends Edges {
    private static final int[] NO_NODES = {-1, 2, 16, MIN, MAX};
    private static final char[] NAMES = {'p', 'l', 's', '+', '-', '*', 'd', 'r', 'j', 'b', 'h'};

    static void run() {
        program();
        programRefused();
        clear();
        start();
        startRefused();
        core();
        fault();
        memory();
        set();
        top();
        at();
    }

    private static void program() {
        of("Promise 28");
        says("Adds an instruction to the program of a core.");
        Meshyard yard = yard(2, 1);
        load(yard, 1, "p5 s0 h");
        yard.start(1);
        yard.beats(3);
        is(5, yard.memory(1, 0));
        yard.program(1, 'p', 6);
        is(3, yard.clear(0) + yard.clear(1) - 1);

        says("its number, of no meaning if it has none");
        for (int number : new int[] {0, -1, 12, MIN, MAX}) {
            for (char name : new char[] {'+', '-', '*', 'b', 'h'}) {
                is(1, yard(1, 1).program(0, name, number));
            }
            Meshyard sum = yard(1, 1);
            load(sum, 0, "p7 p3");
            sum.program(0, '-', number);
            sum.program(0, 'b', number);
            sum.program(0, 'h', number);
            sum.start(0);
            sum.beats(5);
            is(4, sum.top(0));
            is('h', sum.core(0));
        }

        says("Returns how many it has.");
        Meshyard full = new Meshyard();
        for (int i = 0; i < 12; i++) {
            is(i + 1, full.program(15, NAMES[i % 11], i % 8));
        }
        is(1, full.program(14, 'h', 0));
        full.clear(15);
        is(1, full.program(15, 'h', 0));
    }

    private static void programRefused() {
        says("Throws `IndexOutOfBoundsException` if there is no such node");
        Meshyard yard = yard(2, 1);
        for (int node : NO_NODES) {
            refuses(NO_SUCH, yard, () -> yard.program(node, 'h', 0));
        }

        says("Throws `IllegalArgumentException` if there is no such instruction; or the number is not 0 to 7 by 'l' and 's',");
        for (char name : new char[] {'P', 'L', 'o', 'q', 'k', 'm', 't', 'c', 'e', 'g', 'i', 'a', ',', '.', ')', '/', ' ', 0,
            'p' + 256, 65535}) {
            refuses(OFF_RANGE, yard, () -> yard.program(0, name, 0));
        }
        for (char name : new char[] {'l', 's'}) {
            refuses(OFF_RANGE, yard, () -> yard.program(0, name, -1));
            refuses(OFF_RANGE, yard, () -> yard.program(0, name, 8));
            refuses(OFF_RANGE, yard, () -> yard.program(0, name, MIN));
            refuses(OFF_RANGE, yard, () -> yard.program(0, name, MAX));
            is(1, yard.program(0, name, 0));
            is(2, yard.program(0, name, 7));
            is(2, yard.clear(0));
        }
        says("no node by 'd' and 'r',");
        for (int[] size : new int[][] {{1, 1}, {2, 1}, {3, 2}, {4, 4}}) {
            Meshyard sized = yard(size[0], size[1]);
            int nodes = size[0] * size[1];
            for (char name : new char[] {'d', 'r'}) {
                refuses(OFF_RANGE, sized, () -> sized.program(0, name, -1));
                refuses(OFF_RANGE, sized, () -> sized.program(0, name, nodes));
                refuses(OFF_RANGE, sized, () -> sized.program(0, name, MIN));
                refuses(OFF_RANGE, sized, () -> sized.program(0, name, MAX));
                is(1, sized.program(0, name, 0));
                is(2, sized.program(0, name, nodes - 1));
                is(2, sized.clear(0));
            }
        }
        says("or not 0 to 11 by 'j'");
        refuses(OFF_RANGE, yard, () -> yard.program(0, 'j', -1));
        refuses(OFF_RANGE, yard, () -> yard.program(0, 'j', 12));
        refuses(OFF_RANGE, yard, () -> yard.program(0, 'j', MIN));
        refuses(OFF_RANGE, yard, () -> yard.program(0, 'j', MAX));
        is(1, yard.program(0, 'j', 0));
        is(2, yard.program(0, 'j', 11));
        is(2, yard.clear(0));

        says("Throws `IllegalStateException` if it has 12, or the core runs, or waits");
        load(yard, 0, "r1 h p1 p1 p1 p1 p1 p1 p1 p1 p1");
        is(12, yard.program(0, 'p', 1));
        refuses(NOT_NOW, yard, () -> yard.program(0, 'p', 1));
        refuses(NOT_NOW, yard, () -> yard.program(0, 'h', 0));
        Meshyard runs = toTheBarrier();
        refuses(NOT_NOW, runs, () -> runs.program(0, 'h', 0));
        runs.beats(1);
        is('w', runs.core(0));
        refuses(NOT_NOW, runs, () -> runs.program(0, 'h', 0));
        goToTheBarrier(runs);
        refuses(NOT_NOW, runs, () -> runs.program(0, 'h', 0));
        goBehindTheBarrier(runs);
        is(4, runs.program(0, 'h', 0));
        Meshyard stopped = ran("+", 1);
        is('x', stopped.core(0));
        is(2, stopped.program(0, 'h', 0));
    }

    private static void clear() {
        of("Promise 29");
        says("Takes the program of a core away; its state, and the instruction at which it is, stay.");
        Meshyard yard = ran("p9 s3 p8 h", 4);
        yard.clear(0);
        is('h', yard.core(0));
        is(3, yard.at(0));
        is(8, yard.top(0));
        is(9, yard.memory(0, 3));
        refuses(CANNOT, yard, () -> yard.start(0));
        Meshyard stopped = ran("p1 +", 2);
        stopped.clear(0);
        is('x', stopped.core(0));
        is('u', stopped.fault(0));
        is(1, stopped.at(0));
        is(1, stopped.top(0));
        Meshyard never = yard(2, 1);
        load(never, 1, "h");
        never.clear(1);
        is('-', never.core(1));
        refuses(NONE, never, () -> never.at(1));

        says("Returns how many instructions it had.");
        is(0, yard.clear(0));
        is(0, yard.clear(1));
        is(1, stopped.program(0, 'h', 0));
        is(1, stopped.clear(0));
        load(yard, 0, "p1 p1 p1 p1 p1 p1 p1 p1 p1 p1 p1 p1");
        is(12, yard.clear(0));
        is(0, yard.clear(0));

        says("Throws `IndexOutOfBoundsException` if there is no such node");
        for (int node : NO_NODES) {
            refuses(NO_SUCH, yard, () -> yard.clear(node));
        }

        says("Throws `IllegalStateException` if it runs, or waits");
        Meshyard runs = toTheBarrier();
        refuses(NOT_NOW, runs, () -> runs.clear(0));
        runs.beats(1);
        is('w', runs.core(0));
        refuses(NOT_NOW, runs, () -> runs.clear(0));
        goToTheBarrier(runs);
        refuses(NOT_NOW, runs, () -> runs.clear(0));
        goBehindTheBarrier(runs);
        is(3, runs.clear(0));
    }

    private static void start() {
        of("Promise 30");
        says("Starts a core, with an empty stack, at its first instruction.");
        Meshyard yard = ran("p1 p2 s0 p3 h", 5);
        is(3, yard.top(0));
        is(4, yard.at(0));
        yard.start(0);
        refuses(NONE, yard, () -> yard.top(0));
        is(0, yard.at(0));
        is('r', yard.core(0));
        is(2, yard.memory(0, 0));
        Meshyard full = ran("p1 p1 p1 p1 p1 p1 p1", 7);
        is('o', full.fault(0));
        full.start(0);
        refuses(NONE, full, () -> full.top(0));
        full.beats(6);
        is('r', full.core(0));
        full.beats(1);
        is('o', full.fault(0));

        says("Returns how many cores run or wait.");
        Meshyard all = new Meshyard();
        for (int node = 0; node < 16; node++) {
            load(all, node, "r0 h");
            is(node + 1, all.start(node));
        }
        Meshyard mixed = yard(4, 1);
        load(mixed, 0, "r1 h");
        load(mixed, 1, "b h");
        load(mixed, 2, "h");
        load(mixed, 3, "+");
        is(1, mixed.start(0));
        is(2, mixed.start(1));
        is(3, mixed.start(2));
        is(4, mixed.start(3));
        mixed.beats(1);
        is('w', mixed.core(0));
        is('b', mixed.core(1));
        is('h', mixed.core(2));
        is('x', mixed.core(3));
        is(3, mixed.start(2));
    }

    private static void startRefused() {
        says("Throws `IndexOutOfBoundsException` if there is no such node");
        Meshyard yard = yard(2, 1);
        for (int node : NO_NODES) {
            refuses(NO_SUCH, yard, () -> yard.start(node));
        }
        says("Throws `UnsupportedOperationException` if it has no program");
        refuses(CANNOT, yard, () -> yard.start(0));
        load(yard, 0, "h");
        refuses(CANNOT, yard, () -> yard.start(1));
        is(1, yard.start(0));
        yard.beats(1);
        yard.clear(0);
        refuses(CANNOT, yard, () -> yard.start(0));
        says("Throws `IllegalStateException` if it runs, or waits");
        Meshyard runs = toTheBarrier();
        refuses(NOT_NOW, runs, () -> runs.start(0));
        runs.beats(1);
        is('w', runs.core(0));
        refuses(NOT_NOW, runs, () -> runs.start(0));
        goToTheBarrier(runs);
        refuses(NOT_NOW, runs, () -> runs.start(0));
        goBehindTheBarrier(runs);
        is(1, runs.start(0));
        Meshyard stopped = ran("+", 1);
        is(1, stopped.start(0));
    }

    private static void core() {
        of("Promise 31");
        says("Returns the state of a core.");
        Meshyard yard = yard(2, 1);
        load(yard, 0, "p1 r1 b h");
        load(yard, 1, "p1 r0 +");
        yard.start(0);
        yard.start(1);
        yard.send(1, 0, 1, 1);
        StringBuilder states = new StringBuilder();
        for (int beat = 0; beat < 6; beat++) {
            states.append(yard.core(0));
            yard.beats(1);
        }
        yard.send(0, 1, 1, 1);
        for (int beat = 0; beat < 8; beat++) {
            states.append(yard.core(0)).append(yard.core(1));
            yard.beats(1);
        }
        // a message is there as the beat 4 ends, received in 5; 0 is at the barrier in 6; 1 receives in 11, stops in 13
        is("rrwwwr" + "bwbwbwbwbw" + "brbrrx", states.toString());
        says("Returns '-', 'r', 'w', 'b', 'h' or 'x'.");
        Meshyard all = yard(3, 2);
        load(all, 1, "p1 p2 h");
        load(all, 2, "r0 h");
        load(all, 3, "b h");
        load(all, 4, "h");
        load(all, 5, "s0");
        for (int node = 1; node < 6; node++) {
            all.start(node);
        }
        all.beats(1);
        char[] due = {'-', 'r', 'w', 'b', 'h', 'x'};
        for (int node = 0; node < 6; node++) {
            is(due[node], all.core(node));
        }
        all.beats(100);
        is("-hwbhx", "" + all.core(0) + all.core(1) + all.core(2) + all.core(3) + all.core(4) + all.core(5));
        says("Throws `IndexOutOfBoundsException` if there is no such node");
        for (int node : NO_NODES) {
            refuses(NO_SUCH, yard, () -> yard.core(node));
        }
    }

    private static void fault() {
        of("Promise 32");
        says("Returns the fault by which a core stopped.");
        Meshyard yard = ran("p1 p1 p1 p1 p1 p1 p1", 7);
        is('o', yard.fault(0));
        yard.clear(0);
        load(yard, 0, "s0");
        is('o', yard.fault(0));
        yard.start(0);
        yard.beats(1);
        is('u', yard.fault(0));
        yard.beats(100);
        is('u', yard.fault(0));
        says("Returns 'u', 'o', 'j' or 'p'.");
        is('u', ran("s0", 1).fault(0));
        is('j', ran("p1", 2).fault(0));
        Meshyard full = filled(200);
        load(full, 0, "p1 d0");
        full.start(0);
        full.beats(2);
        is('p', full.fault(0));
        says("Throws `IndexOutOfBoundsException` if there is no such node");
        for (int node : NO_NODES) {
            refuses(NO_SUCH, yard, () -> yard.fault(node));
        }
        says("Throws `NoSuchElementException` if it did not");
        refuses(NONE, yard, () -> yard.fault(1));
        Meshyard runs = toTheBarrier();
        refuses(NONE, runs, () -> runs.fault(0));
        runs.beats(1);
        refuses(NONE, runs, () -> runs.fault(0));
        goToTheBarrier(runs);
        refuses(NONE, runs, () -> runs.fault(0));
        goBehindTheBarrier(runs);
        refuses(NONE, runs, () -> runs.fault(0));
        yard.start(0);
        refuses(NONE, yard, () -> yard.fault(0));
    }

    private static void memory() {
        of("Promise 33");
        says("Returns a word of memory.");
        Meshyard yard = yard(2, 1);
        yard.set(0, 0, 5);
        yard.set(1, 0, 6);
        is(5, yard.memory(0, 0));
        is(6, yard.memory(1, 0));
        says("the place, 0 to 7");
        for (int place = 0; place < 8; place++) {
            is(0, yard(1, 1).memory(0, place));
            yard.set(1, place, place + 50);
        }
        for (int place = 0; place < 8; place++) {
            is(place + 50, yard.memory(1, place));
        }
        refuses(OFF_RANGE, yard, () -> yard.memory(1, -1));
        refuses(OFF_RANGE, yard, () -> yard.memory(1, 8));
        says("Returns the word.");
        yard.set(0, 7, MIN);
        is(MIN, yard.memory(0, 7));
        yard.set(0, 7, MAX);
        is(MAX, yard.memory(0, 7));
        says("Throws `IndexOutOfBoundsException` if there is no such node");
        for (int node : NO_NODES) {
            refuses(NO_SUCH, yard, () -> yard.memory(node, 0));
        }
        says("Throws `IllegalArgumentException` if a number is out of range");
        for (int place : new int[] {-1, 8, 16, MIN, MAX}) {
            refuses(OFF_RANGE, yard, () -> yard.memory(0, place));
        }
    }

    private static void set() {
        of("Promise 34");
        says("Sets a word of memory.");
        Meshyard yard = yard(2, 1);
        yard.set(1, 3, 8);
        for (int place = 0; place < 8; place++) {
            is(0, yard.memory(0, place));
            is(place == 3 ? 8 : 0, yard.memory(1, place));
        }
        says("the place, 0 to 7");
        for (int place = 0; place < 8; place++) {
            is(place == 3 ? 8 : 0, yard.set(1, place, place + 70));
        }
        for (int place = 0; place < 8; place++) {
            is(place + 70, yard.memory(1, place));
        }
        refuses(OFF_RANGE, yard, () -> yard.set(1, -1, 1));
        refuses(OFF_RANGE, yard, () -> yard.set(1, 8, 1));
        says("Returns the word before.");
        is(0, yard.set(0, 0, MIN));
        is(MIN, yard.set(0, 0, MAX));
        is(MAX, yard.set(0, 0, 0));
        is(0, yard.memory(0, 0));
        says("Throws `IndexOutOfBoundsException` if there is no such node");
        for (int node : NO_NODES) {
            refuses(NO_SUCH, yard, () -> yard.set(node, 0, 1));
        }
        says("Throws `IllegalArgumentException` if a number is out of range");
        for (int place : new int[] {-1, 8, 16, MIN, MAX}) {
            refuses(OFF_RANGE, yard, () -> yard.set(0, place, 1));
        }
    }

    private static void top() {
        of("Promise 35");
        says("Returns the top of the stack of a core.");
        Meshyard yard = ran("p1 p2 p3 p4 p5 p6 s0 s0 s0 s0 s0 s0", 0);
        for (int word = 1; word <= 6; word++) {
            yard.beats(1);
            is(word, yard.top(0));
        }
        for (int word = 5; word >= 1; word--) {
            yard.beats(1);
            is(word, yard.top(0));
        }
        says("Returns the word.");
        is(MIN, ran("p-2147483648 h", 2).top(0));
        is(MAX, ran("p2147483647 h", 2).top(0));
        says("Throws `IndexOutOfBoundsException` if there is no such node");
        for (int node : NO_NODES) {
            refuses(NO_SUCH, yard, () -> yard.top(node));
        }
        says("Throws `NoSuchElementException` if it is empty");
        is(1, yard.top(0));
        yard.beats(1);
        refuses(NONE, yard, () -> yard.top(0));
        refuses(NONE, yard, () -> yard.top(1));
        Meshyard again = ran("p1 h", 2);
        is(1, again.top(0));
        again.start(0);
        refuses(NONE, again, () -> again.top(0));
    }

    private static void at() {
        of("Promise 36");
        says("Returns the instruction at which a core is.");
        Meshyard yard = ran("p1 j2 r1 b j0 h", 0);
        load(yard, 1, "p1 r0 p1 j0");
        yard.start(1);
        StringBuilder at = new StringBuilder();
        for (int beat = 0; beat < 5; beat++) {
            at.append(yard.at(0));
            yard.beats(1);
        }
        is("01222", at.toString());
        yard.send(1, 0, 1, 1);
        yard.beats(5);
        is(3, yard.at(0));
        yard.beats(3);
        is(3, yard.at(0));
        is('b', yard.core(0));
        says("Returns its number, from 0.");
        Meshyard last = ran("p1 s0 p1 s0 p1 s0 p1 s0 p1 s0 p1 s0", 0);
        for (int beat = 0; beat < 12; beat++) {
            is(beat, last.at(0));
            last.beats(1);
        }
        is(12, last.at(0));
        last.beats(1);
        is('j', last.fault(0));
        is(12, last.at(0));
        says("Throws `IndexOutOfBoundsException` if there is no such node");
        for (int node : NO_NODES) {
            refuses(NO_SUCH, yard, () -> yard.at(node));
        }
        says("Throws `NoSuchElementException` if it was not started");
        Meshyard never = yard(2, 1);
        refuses(NONE, never, () -> never.at(0));
        load(never, 0, "h");
        refuses(NONE, never, () -> never.at(0));
        never.start(0);
        is(0, never.at(0));
        refuses(NONE, never, () -> never.at(1));
        never.beats(1);
        is(0, never.at(0));
        never.clear(0);
        is(0, never.at(0));
    }
}

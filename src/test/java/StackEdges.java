/** The edges that the document's terms name for cores, the barrier, sleep, the proof, tasks and exceptions. */
abstract class StackEdges extends Edges {
    private static final char[] SIDES = {'e', 'w', 's', 'n'};
    private static final int[] NEIGHBOURS = {5, 3, 7, 1};

    static void run() {
        of("Terms");
        sizes();
        moving();
        reckoning();
        sending();
        receiving();
        jumping();
        stopping();
        oneInABeat();
        faults();
        faultJ();
        faultP();
        asTheyWere();
        room();
        barrier();
        barrierOfAll();
        states();
        sleep();
        sleepAndItsCore();
        wake();
        proof();
        noWaitForEver();
        tasks();
        changesNothing();
        firstOfSeveral();
        firstOfSeveralByTheNet();
    }

    private static void sizes() {
        says("Each has 8 words of memory, 0 at first,");
        Meshyard yard = new Meshyard();
        for (int node = 0; node < 16; node++) {
            for (int place = 0; place < 8; place++) {
                is(0, yard.memory(node, place));
            }
        }
        refuses(OFF_RANGE, yard, () -> yard.memory(0, 8));
        refuses(OFF_RANGE, yard, () -> yard.memory(0, -1));
        Meshyard last = ran("l7 p5 s7 l7 h", 5);
        is(5, last.memory(0, 7));
        is(5, last.top(0));

        says("a stack of at most 6 words,");
        is("h6", "" + ran("p1 p2 p3 p4 p5 p6 h", 7).core(0) + ran("p1 p2 p3 p4 p5 p6 h", 7).top(0));
        is("x6", "" + ran("p1 p2 p3 p4 p5 p6 p7", 7).core(0) + ran("p1 p2 p3 p4 p5 p6 p7", 7).top(0));
        is("h21", "" + ran("p1 p2 p3 p4 p5 p6 + + + + + h", 12).core(0) + ran("p1 p2 p3 p4 p5 p6 + + + + + h", 12).top(0));

        says("and a program of at most 12 instructions:");
        Meshyard full = yard(1, 1);
        load(full, 0, "p1 p1 + p1 + p1 + p1 + p1 +");
        is(12, full.program(0, 'h', 0));
        refuses(NOT_NOW, full, () -> full.program(0, 'h', 0));
        full.start(0);
        full.beats(12);
        is('h', full.core(0));
        is(6, full.top(0));
    }

    private static void moving() {
        says("'p' pushes a number, 'l' pushes the word of memory of a number, 's' pops one into it,");
        is(MIN, ran("p-2147483648", 1).top(0));
        is(MAX, ran("p2147483647", 1).top(0));
        for (int place = 0; place < 8; place++) {
            Meshyard yard = yard(1, 1);
            for (int i = 0; i < 8; i++) {
                yard.set(0, i, 10 + i);
            }
            load(yard, 0, "l" + place + " p99 s" + place + " h");
            yard.start(0);
            yard.beats(4);
            is(10 + place, yard.top(0));
            for (int i = 0; i < 8; i++) {
                is(i == place ? 99 : 10 + i, yard.memory(0, i));
            }
        }
    }

    private static void reckoning() {
        says("'+', '-' and '*' pop the second one, then the first one, and push what comes, which goes round;");
        is(12, ran("p7 p5 +", 3).top(0));
        is(2, ran("p7 p5 -", 3).top(0));
        is(-2, ran("p5 p7 -", 3).top(0));
        is(-35, ran("p7 p-5 *", 3).top(0));
        is(MIN, ran("p2147483647 p1 +", 3).top(0));
        is(0, ran("p-2147483648 p-2147483648 +", 3).top(0));
        is(MAX, ran("p-2147483648 p1 -", 3).top(0));
        is(MIN, ran("p0 p-2147483648 -", 3).top(0));
        is(MIN, ran("p-2147483648 p-1 *", 3).top(0));
        is(MIN, ran("p65536 p32768 *", 3).top(0));
        is(0, ran("p65536 p65536 *", 3).top(0));
        is(1, ran("p2147483647 p2147483647 *", 3).top(0));
        // the words below stay, and one word is left of two
        is(9, ran("p9 p7 p5 + s0", 5).top(0));
        refuses(NONE, ran("p7 p5 * s0", 4), () -> ran("p7 p5 * s0", 4).top(0));
    }

    private static void sending() {
        says("'d' pops a word and sends it as a message with 1 body to the node of a number;");
        Meshyard yard = yard(4, 4);
        load(yard, 0, "p-2147483648 p8 d15 d0 h");
        yard.start(0);
        yard.beats(3);
        is(MIN, yard.top(0));
        is(8, yard.word(0));
        is('m', yard.kind(0));
        yard.beats(1);
        refuses(NONE, yard, () -> yard.top(0));
        is(MIN, yard.word(1));
        yard.beats(20);
        is(9, yard.time(0));
        is(0, yard.receive(15, 0));
        is(1, yard.receive(0, 0));
        is(2, yard.packets());
    }

    private static void receiving() {
        says("'r' receives the word of a message of the node of a number, and pushes it, waiting as long as there is none;");
        Meshyard yard = ran("r1 r0 h", 1);
        is('w', yard.core(0));
        yard.beats(100);
        is("w0", "" + yard.core(0) + yard.at(0));
        refuses(NONE, yard, () -> yard.top(0));
        yard.send(0, 0, 5, 1);
        yard.beats(9);
        is('w', yard.core(0));
        yard.send(1, 0, MIN, 4);
        yard.beats(7);
        is("w1", "" + yard.core(0) + yard.lying(0, 1));
        yard.beats(1);
        is("r0", "" + yard.core(0) + yard.lying(0, 1));
        is('r', yard.state(1));
        is(MIN, yard.top(0));
        yard.beats(1);
        is(5, yard.top(0));
        is('r', yard.state(0));
        yard.beats(1);
        is('h', yard.core(0));
        // one that lies there already is taken at once
        Meshyard there = yard(2, 1);
        there.send(1, 0, 7, 1);
        there.beats(4);
        load(there, 0, "r1 h");
        there.start(0);
        there.beats(1);
        is("r7", "" + there.core(0) + there.top(0));
        // with a full stack it waits as long as there is none, too
        Meshyard full = ran("p1 p1 p1 p1 p1 p1 r1", 9);
        is('w', full.core(0));
    }

    private static void jumping() {
        says("'j' pops a word, and goes to the instruction of a number if it is not 0;");
        is(2, ran("p0 j0 h", 2).at(0));
        for (int word : new int[] {1, -1, MIN, MAX}) {
            is(0, ran("p" + word + " j0 h", 2).at(0));
            is(11, ran("p" + word + " j11 h", 2).at(0));
        }
        Meshyard yard = ran("p4 p1 j3 h", 3);
        is(4, yard.top(0));
        Meshyard last = yard(1, 1);
        load(last, 0, "p1 j11 p5 p5 p5 p5 p5 p5 p5 p5 p5 h");
        last.start(0);
        last.beats(3);
        is("h11", "" + last.core(0) + last.at(0));
        // to itself, for ever
        Meshyard loop = ran("p1 j0", 100);
        is("r0", "" + loop.core(0) + loop.at(0));
    }

    private static void stopping() {
        says("'b' waits at the barrier; 'h' halts.");
        Meshyard yard = yard(2, 1);
        load(yard, 0, "b h");
        load(yard, 1, "r0 h");
        yard.start(0);
        yard.start(1);
        yard.beats(50);
        is("b0", "" + yard.core(0) + yard.at(0));
        Meshyard halted = ran("h p1", 1);
        is("h0", "" + halted.core(0) + halted.at(0));
        halted.beats(50);
        is("h0", "" + halted.core(0) + halted.at(0));
        refuses(NONE, halted, () -> halted.top(0));
    }

    private static void oneInABeat() {
        says("In a beat, ahead of the routers, each core that runs or waits for a message does one instruction, by numbers.");
        Meshyard yard = new Meshyard();
        for (int node = 15; node >= 0; node--) {
            load(yard, node, "p" + node + " d0 h");
            yard.start(node);
        }
        yard.beats(1);
        is(0, yard.packets());
        is(15, yard.top(15));
        yard.beats(1);
        is(16, yard.packets());
        for (int packet = 0; packet < 16; packet++) {
            is(packet, yard.word(packet));
            is('w', yard.state(packet));
            is(1, yard.pieces(packet));
        }
        // what is delivered in a beat is received in the next one
        Meshyard waits = ran("r1 h", 1);
        waits.send(1, 0, 4, 1);
        waits.beats(4);
        is("dw", "" + waits.state(0) + waits.core(0));
        waits.beats(1);
        is("rr", "" + waits.state(0) + waits.core(0));
        // those at the barrier, halted, stopped or never started do nothing
        Meshyard rest = yard(4, 1);
        load(rest, 0, "h p1");
        load(rest, 1, "+ p1");
        load(rest, 2, "p1");
        load(rest, 3, "r0 h");
        rest.start(0);
        rest.start(1);
        rest.start(3);
        rest.beats(50);
        is("hx-w", "" + rest.core(0) + rest.core(1) + rest.core(2) + rest.core(3));
        is("00", "" + rest.at(0) + rest.at(1));
    }

    private static char faultOf(String code, int beat) {
        Meshyard before = ran(code, beat - 1);
        is('r', before.core(0));
        Meshyard yard = ran(code, beat);
        is('x', yard.core(0));
        return yard.fault(0);
    }

    private static void faults() {
        says("It stops with the first fault that it meets:");
        is('u', faultOf("+ p1 p1 p1 p1 p1 p1 p1", 1));
        Meshyard full = filled(200);
        load(full, 0, "d1");
        full.start(0);
        full.beats(1);
        is('u', full.fault(0));
        full.beats(50);
        is("x0", "" + full.core(0) + full.at(0));

        says("'u' a pop from an empty stack,");
        for (String name : new String[] {"s0", "+", "-", "*", "d1", "j0"}) {
            is('u', faultOf(name, 1));
        }
        for (String name : new String[] {"+", "-", "*"}) {
            is('u', faultOf("p1 " + name, 2));
            is('r', ran("p1 p1 " + name, 3).core(0));
        }
        for (String name : new String[] {"s0", "d1", "j0"}) {
            is('r', ran("p1 " + name, 2).core(0));
            is('u', faultOf("p0 " + name + " " + name, 3));
        }

        says("'o' a push to a full one,");
        is('o', faultOf("p1 p1 p1 p1 p1 p1 p1", 7));
        is('o', faultOf("p1 p1 p1 p1 p1 p1 l0", 7));
        is('h', ran("p1 p1 p1 p1 p1 p1 s0 l0 h", 9).core(0));
        Meshyard received = ran("p1 p1 p1 p1 p1 p1 r1", 6);
        received.send(1, 0, 1, 1);
        received.beats(4);
        is('w', received.core(0));
        received.beats(1);
        is('o', received.fault(0));
        Meshyard five = ran("p1 p1 p1 p1 p1 r1 h", 6);
        five.send(1, 0, 1, 1);
        five.beats(6);
        is('h', five.core(0));
    }

    private static void faultJ() {
        says("'j' there is no instruction where it is, as it would be done, behind the last one or behind a jump,");
        is('j', faultOf("p1", 2));
        is('j', faultOf("p1 p1 p1 p1 p1 p1 s0 s0 s0 s0 s0 s0", 13));
        is('j', faultOf("p1 j2", 3));
        is('j', faultOf("p1 j11", 3));
        is('j', faultOf("p1 j3 h", 3));
        is('h', ran("p1 j2 h", 3).core(0));
        is('r', ran("p1 j11", 2).core(0));
        // behind a barrier and behind a message, too
        is('j', faultOf("b", 2));
        Meshyard received = ran("r1", 1);
        received.send(1, 0, 1, 1);
        received.beats(5);
        is('r', received.core(0));
        received.beats(1);
        is('j', received.fault(0));
    }

    private static void faultP() {
        says("'p' there is no room for a packet.");
        Meshyard yard = filled(199);
        load(yard, 0, "p7 p8 d1 d1");
        yard.start(0);
        yard.beats(3);
        is(200, yard.packets());
        is('r', yard.core(0));
        yard.beats(1);
        is('p', yard.fault(0));
        is(200, yard.packets());
        Meshyard asked = filled(198);
        asked.ask(1, 0, 0, false, 0);
        load(asked, 0, "p7 d1");
        asked.start(0);
        asked.beats(2);
        is('p', asked.fault(0));
        // a question lost by the routers of a beat makes room for the cores of the next one
        Meshyard lost = filled(198);
        lost.fail(0, 'e', true);
        lost.ask(1, 0, 0, false, 0);
        load(lost, 0, "p7 p7 d1 d1");
        lost.start(0);
        lost.beats(3);
        is("l200", "" + lost.state(198) + lost.packets());
        lost.beats(1);
        is('p', lost.fault(0));
    }

    private static String told(Meshyard yard) {
        StringBuilder text = new StringBuilder();
        text.append(yard.at(0)).append(' ').append(yard.packets());
        for (int place = 0; place < 8; place++) {
            text.append(' ').append(yard.memory(0, place));
        }
        try {
            return text.append(" top ").append(yard.top(0)).toString();
        } catch (java.util.NoSuchElementException e) {
            return text.append(" empty").toString();
        }
    }

    private static void asTheyWere() {
        says("The stack, the memory and the instruction are then as they were.");
        String[] codes = {"p5 s0 s0", "p5 s0 +", "p5 -", "p5 *", "p3 s1 d1", "p5 s7 j0", "p1 p2 p3 p4 p5 p6 p7", "p8 s0 l0 l0 l0 l0 l0 l0 l0",
            "p1", "p9 p1 j11"};
        int[] beats = {3, 3, 2, 2, 3, 3, 7, 9, 2, 4};
        for (int i = 0; i < codes.length; i++) {
            Meshyard before = ran(codes[i], beats[i] - 1);
            Meshyard yard = ran(codes[i], beats[i]);
            is('r', before.core(0));
            is('x', yard.core(0));
            is(told(before), told(yard));
            yard.beats(9);
            is(told(before), told(yard));
        }
        Meshyard full = filled(200);
        load(full, 0, "p4 p5 d1");
        full.start(0);
        full.beats(2);
        String before = told(full);
        full.beats(1);
        is('p', full.fault(0));
        is(before, told(full));
        // all words of a full stack are there still, and the message lies there
        Meshyard received = ran("p1 p2 p3 p4 p5 p6 r1", 7);
        received.send(1, 0, 1, 1);
        String waits = told(received).replaceFirst("6 0", "6 1");
        received.beats(5);
        is('o', received.fault(0));
        is(waits, told(received));
        is(1, received.lying(0, 1));
    }

    private static void room() {
        says("There are at most 200 packets, those counted that questions on their way need for their answers.");
        Meshyard yard = yard(1, 1);
        for (int i = 0; i < 100; i++) {
            is(i, yard.ask(0, 0, 0, true, 1));
        }
        refuses(NOT_NOW, yard, () -> yard.ask(0, 0, 0, true, 1));
        refuses(NOT_NOW, yard, () -> yard.send(0, 0, 0, 1));
        refuses(NOT_NOW, yard, () -> yard.multicast(0, 1, 1));
        for (int i = 0; i < 5; i++) {
            yard.beats(100);
        }
        is(200, yard.packets());
        is(100, yard.memory(0, 0));
        for (int i = 0; i < 100; i++) {
            is('d', yard.state(yard.answer(i)));
        }
        is(99, yard.word(yard.answer(99)));
        refuses(NOT_NOW, yard, () -> yard.send(0, 0, 0, 1));
    }

    private static void barrier() {
        says("As a beat ends, if some core waits at the barrier, and none runs or waits for a message,");
        Meshyard alone = ran("b b h", 1);
        is("r1", "" + alone.core(0) + alone.at(0));
        alone.beats(1);
        is("r2", "" + alone.core(0) + alone.at(0));
        alone.beats(1);
        is('h', alone.core(0));
        // the other one runs for two beats, and then halts, stops, or is at the barrier as well
        for (String code : new String[] {"p1 p1 h", "p1 p1 s0 s0 s0", "p1 p1 b p1"}) {
            Meshyard yard = yard(2, 1);
            load(yard, 0, "b h");
            load(yard, 1, code);
            yard.start(0);
            yard.start(1);
            int beats = code.equals("p1 p1 s0 s0 s0") ? 4 : 2;
            yard.beats(beats);
            is("b0", "" + yard.core(0) + yard.at(0));
            yard.beats(1);
            is("r1", "" + yard.core(0) + yard.at(0));
        }
        // one that waits for a message holds it up, until it has one and is no more
        Meshyard waits = yard(2, 1);
        load(waits, 0, "b h");
        load(waits, 1, "r1 h");
        waits.start(0);
        waits.start(1);
        waits.beats(100);
        is("bw", "" + waits.core(0) + waits.core(1));
        waits.send(1, 1, 1, 1);
        waits.beats(4);
        is("br", "" + waits.core(0) + waits.core(1));
        waits.beats(1);
        is("rh", "" + waits.core(0) + waits.core(1));
        // one that is started in between holds it up, too
        Meshyard started = yard(3, 1);
        load(started, 0, "b h");
        load(started, 1, "p1 h");
        load(started, 2, "p1 p1 h");
        started.start(0);
        started.start(1);
        started.beats(1);
        started.start(2);
        started.beats(2);
        is("bhr", "" + started.core(0) + started.core(1) + started.core(2));
        started.beats(1);
        is("rhh", "" + started.core(0) + started.core(1) + started.core(2));
        // none waits there: nothing happens
        Meshyard none = ran("h", 1);
        none.beats(1);
        is("h0", "" + none.core(0) + none.at(0));
    }

    private static void barrierOfAll() {
        says("all that wait there run on behind it.");
        Meshyard yard = new Meshyard();
        for (int node = 0; node < 16; node++) {
            StringBuilder code = new StringBuilder();
            for (int i = 0; i < node % 6; i++) {
                code.append("p1 ");
            }
            load(yard, node, code + "b h");
            yard.start(node);
        }
        yard.beats(5);
        for (int node = 0; node < 16; node++) {
            is(node % 6 == 5 ? 'r' : 'b', yard.core(node));
        }
        yard.beats(1);
        for (int node = 0; node < 16; node++) {
            is("r" + (node % 6 + 1), "" + yard.core(node) + yard.at(node));
        }
        yard.beats(1);
        for (int node = 0; node < 16; node++) {
            is('h', yard.core(node));
        }
    }

    private static void states() {
        says("The state of a core is '-' before it was started, 'r' it runs, 'w' it waits for a message, 'b' at the barrier,");
        Meshyard yard = yard(2, 1);
        is('-', yard.core(0));
        load(yard, 0, "p1 r1 b h");
        is('-', yard.core(0));
        load(yard, 1, "r1 h");
        yard.start(1);
        yard.start(0);
        is('r', yard.core(0));
        yard.beats(1);
        is('r', yard.core(0));
        yard.beats(1);
        is('w', yard.core(0));
        yard.send(1, 0, 1, 1);
        yard.beats(5);
        is('r', yard.core(0));
        yard.beats(1);
        is('b', yard.core(0));
        says("'h' halted, 'x' stopped by a fault.");
        yard.send(1, 1, 1, 1);
        yard.beats(9);
        is("hh", "" + yard.core(0) + yard.core(1));
        is('x', ran("+", 1).core(0));
    }

    // Sleep

    private static void sleep() {
        says("A router can be put to sleep if its rows are empty and belong to no packet,");
        for (int side = 0; side < 4; side++) {
            Meshyard message = yard(3, 3);
            message.send(NEIGHBOURS[side], 4, 1, 1);
            yes(message.sleep(4));
            message.beats(3);
            is(1, message.row(4, SIDES[side], 0));
            refuses(CANNOT, message, () -> message.sleep(4));
            message.beats(2);
            yes(message.sleep(4));
            Meshyard answer = yard(3, 3);
            answer.ask(4, NEIGHBOURS[side], 0, false, 0);
            answer.beats(5);
            is(1, answer.row(4, SIDES[side], 1));
            refuses(CANNOT, answer, () -> answer.sleep(4));
            answer.beats(2);
            yes(answer.sleep(4));
        }
        Meshyard own = yard(1, 1);
        own.ask(0, 0, 0, false, 0);
        for (int beat = 1; beat <= 4; beat++) {
            own.beats(1);
            is(1, own.row(0, 'c', 0) + own.row(0, 'c', 1));
            refuses(CANNOT, own, () -> own.sleep(0));
        }
        own.beats(1);
        yes(own.sleep(0));
        // with one place a row from a lower number is empty for a beat between head and body, but belongs to the packet
        for (int side = 1; side < 4; side += 2) {
            Meshyard yard = yard(3, 3);
            yard.places(1);
            yard.send(NEIGHBOURS[side], 4, 1, 1);
            yard.beats(3);
            is(0, yard.row(4, SIDES[side], 0));
            is(0, yard.owner(4, SIDES[side], 0));
            refuses(CANNOT, yard, () -> yard.sleep(4));
            yard.beats(2);
            yes(yard.sleep(4));
        }
    }

    private static void sleepAndItsCore() {
        says("and its core does not run, wait for a message or at the barrier;");
        Meshyard yard = yard(2, 1);
        load(yard, 0, "r1 b h");
        load(yard, 1, "r1 h");
        yard.start(0);
        yard.start(1);
        refuses(CANNOT, yard, () -> yard.sleep(0));
        yard.beats(1);
        is('w', yard.core(0));
        refuses(CANNOT, yard, () -> yard.sleep(0));
        yard.send(1, 0, 1, 1);
        yard.beats(8);
        is('b', yard.core(0));
        refuses(CANNOT, yard, () -> yard.sleep(0));
        yard.send(1, 1, 1, 1);
        yard.beats(9);
        is("hh", "" + yard.core(0) + yard.core(1));
        yes(yard.sleep(0));
        Meshyard stopped = ran("+", 1);
        yes(stopped.sleep(0));
        yes(stopped.sleep(1));

        says("it moves nothing.");
        Meshyard asleep = yard(2, 1);
        asleep.sleep(0);
        no(asleep.beats(100));
        asleep.send(0, 0, 1, 1);
        no(asleep.beats(1));
        is('s', asleep.state(0));
    }

    private static void wake() {
        says("As a router looks at a head that goes to one asleep, that one is woken, and is awake from the next beat on.");
        for (int side = 0; side < 4; side++) {
            Meshyard yard = yard(3, 3);
            yard.sleep(NEIGHBOURS[side]);
            yard.send(4, NEIGHBOURS[side], 1, 1);
            yard.beats(1);
            no(yard.isAwake(NEIGHBOURS[side]));
            yard.send(NEIGHBOURS[side], 4, 1, 1);
            no(yard.row(4, 'c', 0) == 0);
            yard.beats(1);
            is('s', yard.state(1));
            is(4, yard.head(0));
            yes(yard.isAwake(NEIGHBOURS[side]));
            yard.beats(1);
            is(NEIGHBOURS[side], yard.head(0));
            yard.beats(50);
            yes(yard.isAwake(NEIGHBOURS[side]));
            is(5, yard.time(0));
        }
        // one that goes to a failed link wakes none, nor does one that was looked at ahead of the sleep
        Meshyard lost = yard(2, 1);
        lost.sleep(1);
        lost.fail(0, 'e', true);
        lost.send(0, 1, 1, 1);
        lost.beats(9);
        no(lost.isAwake(1));
        Meshyard again = yard(2, 1);
        again.send(0, 1, 1, 1);
        beatsAsleep(again, 1, 5);
        yes(again.isAwake(1));
        again.sleep(1);
        no(again.isAwake(1));
        is(0, again.head(0));
        again.beats(9);
        again.sleep(0);
        again.sleep(1);
        again.beats(9);
        no(again.isAwake(0));
        no(again.isAwake(1));
    }

    // The proof

    private static int leads(Meshyard yard, char way) {
        yard.way(way);
        return yard.leads();
    }

    private static void proof() {
        says("one leads to another one if a packet of some source and goal could go by both, one directly behind the other, by the way");
        // the four nodes around: by 'x' an x link leads to a y link, by 'y' the other way, by 't' both but for those west
        is(4, leads(yard(2, 2), 'x'));
        is(4, leads(yard(2, 2), 'y'));
        is(6, leads(yard(2, 2), 't'));
        is(0, leads(yard(1, 1), 't'));
        is(0, leads(yard(2, 1), 't'));
        is(2, leads(yard(1, 3), 'x'));
        says("wherever places are free;");
        Meshyard full = yard(2, 2);
        for (int i = 0; i < 12; i++) {
            full.multicast(i % 4, 15, 1);
        }
        full.places(1);
        full.beats(5);
        is("446", "" + leads(full, 'x') + leads(full, 'y') + leads(full, 't'));
        says("one that would come to a link that failed goes no farther,");
        Meshyard failed = yard(3, 1);
        failed.fail(1, 'e', true);
        is(0, failed.leads());
        failed.fail(1, 'e', false);
        is(2, failed.leads());
        Meshyard corner = yard(2, 2);
        corner.fail(0, 'e', true);
        is("223", "" + leads(corner, 'x') + leads(corner, 'y') + leads(corner, 't'));
        says("and by 't' takes any that leads to its goal, as told, and has not failed.");
        Meshyard both = yard(3, 2);
        // from west to east both ways round, and from each of the two lines to the other one
        int straight = 4;
        int toY = 8;
        int toEast = 4;
        is(straight + toY + toEast, leads(both, 't'));
        both.fail(1, 's', true);
        // of the middle: east or west to south or north, and south or north to east, are gone
        is(straight + toY + toEast - 4 - 2, leads(both, 't'));
    }

    /**
     * No way of the document lays a ring. Here the places of four nodes in the object are changed, so that by 't' the
     * links 0 e, 1 s, w, n go round.
     */
    static Meshyard ring(int size) {
        Meshyard yard = yard(size, size);
        yard.way('t');
        no(yard.hasRing());
        try {
            Object column = TamperTests.field(TamperTests.field(yard, "net"), "column");
            java.lang.reflect.Array.set(column, size, 1);
            java.lang.reflect.Array.set(column, size + 1, 2);
        } catch (ReflectiveOperationException e) {
            throw new AssertionError(e);
        }
        return yard;
    }

    private static void noWaitForEver() {
        says("Without a ring in this no packets can wait for each other for ever.");
        Meshyard round = ring(2);
        yes(round.hasRing());
        for (int node = 0; node < 4; node++) {
            char direction = node < 2 ? 's' : 'n';
            round.fail(node, direction, true);
            no(round.hasRing());
            round.fail(node, direction, false);
            yes(round.hasRing());
        }
        for (char way : new char[] {'x', 'y', 't'}) {
            Meshyard yard = new Meshyard();
            yard.way(way);
            yard.places(1);
            no(yard.hasRing());
            for (int node = 0; node < 16; node++) {
                yard.send(node, 15 - node, node, 4);
                yard.send(node, (node * 5 + 3) % 16, node, 4);
                yard.ask(node, 15 - node, 0, true, 1);
                yard.ask(node, (node * 7 + 2) % 16, 0, true, 1);
                yard.send(node, node * 3 % 16, node, 4);
            }
            for (int i = 0; i < 12; i++) {
                yard.beats(100);
            }
            is(112, yard.packets());
            for (int packet = 0; packet < 112; packet++) {
                is('d', yard.state(packet));
            }
            no(yard.beats(1));
        }
    }

    private static void tasks() {
        says("At most 8 are numbered from 0, each at a node, with traffic between each two, 0 to 99, 0 at first.");
        Meshyard yard = new Meshyard();
        for (int task = 0; task < 8; task++) {
            is(task, yard.task(15 - task));
            is(15 - task, yard.nodeOf(task));
        }
        refuses(NOT_NOW, yard, () -> yard.task(0));
        for (int first = 0; first < 8; first++) {
            for (int second = first + 1; second < 8; second++) {
                is(0, yard.traffic(first, second, 99));
                is(99, yard.traffic(second, first, 0));
            }
        }
        refuses(OFF_RANGE, yard, () -> yard.traffic(0, 1, -1));
        refuses(OFF_RANGE, yard, () -> yard.traffic(0, 1, 100));
        says("The cost of a placing is the sum over all pairs of the traffic times the steps between their nodes.");
        is(0, yard.cost());
        int due = 0;
        for (int first = 0; first < 8; first++) {
            for (int second = first + 1; second < 8; second++) {
                int a = 15 - first;
                int b = 15 - second;
                yard.traffic(first, second, 99 - first);
                due += (99 - first) * (Math.abs(a % 4 - b % 4) + Math.abs(a / 4 - b / 4));
                is(due, yard.cost());
            }
        }
    }

    // Exceptions

    private static void changesNothing() {
        says("A method that throws an exception changes nothing.");
        Meshyard yard = busy();
        Meshyard twin = busy();
        refuses(NO_SUCH, yard, () -> yard.send(0, 6, 1, 1));
        refuses(OFF_RANGE, yard, () -> yard.multicast(0, 127, 1));
        refuses(OFF_RANGE, yard, () -> yard.ask(0, 1, 8, true, 1));
        refuses(OFF_RANGE, yard, () -> yard.answer(0));
        refuses(NONE, yard, () -> yard.time(0));
        refuses(NONE, yard, () -> yard.receive(5, 5));
        refuses(OFF_RANGE, yard, () -> yard.net(4, 5));
        refuses(OFF_RANGE, yard, () -> yard.beats(101));
        refuses(OFF_RANGE, yard, () -> yard.way('z'));
        refuses(OFF_RANGE, yard, () -> yard.places(5));
        refuses(CANNOT, yard, () -> yard.fail(0, 'w', true));
        refuses(CANNOT, yard, () -> yard.sleep(0));
        refuses(OFF_RANGE, yard, () -> yard.program(5, 'l', 8));
        refuses(NOT_NOW, yard, () -> yard.program(0, 'p', 8));
        refuses(NOT_NOW, yard, () -> yard.clear(0));
        refuses(NOT_NOW, yard, () -> yard.start(0));
        refuses(CANNOT, yard, () -> yard.start(5));
        refuses(OFF_RANGE, yard, () -> yard.set(0, 8, 1));
        refuses(NO_SUCH, yard, () -> yard.task(6));
        refuses(OFF_RANGE, yard, () -> yard.traffic(0, 1, 100));
        yard.swap();
        twin.swap();
        refuses(NONE, yard, () -> yard.swap());
        for (int beat = 0; beat < 60; beat++) {
            is(twin.beats(1), yard.beats(1));
            is(twin.checksum(), yard.checksum());
        }
        is(twin.packets(), yard.packets());
        is(twin.cost(), yard.cost());
        is(twin.meanTime(), yard.meanTime());
        is(twin.way('x'), yard.way('x'));
        is(twin.places(1), yard.places(1));
        is(Inside.told(twin), Inside.told(yard));
    }

    private static void firstOfSeveral() {
        says("If several exceptions apply, the one that is listed first is thrown.");
        Meshyard full = filled(200);
        refuses(NO_SUCH, full, () -> full.send(2, 0, 1, 0));
        refuses(NO_SUCH, full, () -> full.send(0, 2, 1, 0));
        refuses(NO_SUCH, full, () -> full.send(2, 0, 1, 1));
        refuses(NO_SUCH, full, () -> full.send(0, -1, 1, 1));
        refuses(OFF_RANGE, full, () -> full.send(0, 1, 1, 0));
        refuses(OFF_RANGE, full, () -> full.send(0, 1, 1, 5));
        refuses(NO_SUCH, full, () -> full.multicast(2, 0, 1));
        refuses(NO_SUCH, full, () -> full.multicast(2, 1, 1));
        refuses(OFF_RANGE, full, () -> full.multicast(0, 0, 1));
        refuses(OFF_RANGE, full, () -> full.multicast(0, 7, 1));
        refuses(NO_SUCH, full, () -> full.ask(2, 0, 8, false, 0));
        refuses(NO_SUCH, full, () -> full.ask(0, 2, 8, false, 0));
        refuses(NO_SUCH, full, () -> full.ask(0, 2, 0, false, 0));
        refuses(OFF_RANGE, full, () -> full.ask(0, 1, 8, false, 0));
        refuses(OFF_RANGE, full, () -> full.ask(0, 1, -1, false, 0));
        refuses(OFF_RANGE, full, () -> full.answer(0));
        refuses(NO_SUCH, full, () -> full.answer(200));
        refuses(NO_SUCH, full, () -> full.head(200));
        refuses(NO_SUCH, full, () -> full.time(-1));
        refuses(NO_SUCH, full, () -> full.receive(2, 0));
        refuses(NO_SUCH, full, () -> full.receive(0, 2));
        Meshyard tasks = yard(2, 1);
        for (int task = 0; task < 8; task++) {
            tasks.task(0);
        }
        refuses(NO_SUCH, tasks, () -> tasks.task(2));
        refuses(NO_SUCH, tasks, () -> tasks.traffic(8, 8, 100));
        refuses(NO_SUCH, tasks, () -> tasks.traffic(0, 8, 100));
        refuses(NO_SUCH, tasks, () -> tasks.traffic(-1, 0, -1));
        refuses(NO_SUCH, tasks, () -> tasks.traffic(-1, -1, 0));
    }

    private static void firstOfSeveralByTheNet() {
        Meshyard yard = yard(2, 1);
        refuses(NO_SUCH, yard, () -> yard.row(2, 'x', 0));
        refuses(NO_SUCH, yard, () -> yard.row(-1, 'e', 2));
        refuses(NO_SUCH, yard, () -> yard.owner(2, 'c', 0));
        refuses(NO_SUCH, yard, () -> yard.owner(-1, 'e', -1));
        refuses(NO_SUCH, yard, () -> yard.fail(2, 'c', true));
        refuses(NO_SUCH, yard, () -> yard.fail(2, 'e', true));
        refuses(OFF_RANGE, yard, () -> yard.fail(0, 'c', true));
        load(yard, 0, "r1 p1 p1 p1 p1 p1 p1 p1 p1 p1 p1 p1");
        yard.start(0);
        refuses(NO_SUCH, yard, () -> yard.sleep(2));
        refuses(NO_SUCH, yard, () -> yard.program(2, '?', 0));
        refuses(NO_SUCH, yard, () -> yard.program(-1, 'l', 8));
        refuses(OFF_RANGE, yard, () -> yard.program(0, '?', 0));
        refuses(OFF_RANGE, yard, () -> yard.program(0, 'l', 8));
        refuses(OFF_RANGE, yard, () -> yard.program(0, 'd', 2));
        refuses(OFF_RANGE, yard, () -> yard.program(0, 'j', 12));
        refuses(NO_SUCH, yard, () -> yard.clear(2));
        refuses(NO_SUCH, yard, () -> yard.start(2));
        refuses(NO_SUCH, yard, () -> yard.fault(2));
        refuses(NO_SUCH, yard, () -> yard.memory(2, 8));
        refuses(NO_SUCH, yard, () -> yard.memory(-1, -1));
        refuses(NO_SUCH, yard, () -> yard.set(2, 8, 1));
        refuses(NO_SUCH, yard, () -> yard.set(-1, -1, 1));
        refuses(NO_SUCH, yard, () -> yard.top(2));
        refuses(NO_SUCH, yard, () -> yard.at(2));
    }
}

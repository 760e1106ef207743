/** Promises 28 to 36: the cores with their stack code, and the barrier. */
public final class CoreTests extends Check {
    public static void main(String[] args) {
        promise28Program();
        promise28ProgramThrows();
        promise29Clear();
        promise30Start();
        promise31Core();
        promise32FaultU();
        promise32FaultO();
        promise32FaultJ();
        promise32FaultP();
        promise33Memory();
        promise34Set();
        promise35Top();
        promise36At();
        reckoning();
        jumping();
        sending();
        receiving();
        receivingToAFullStack();
        barrier();
        barrierOfOne();
        oneInstructionABeatByNumbers();
        end("CoreTests");
    }

    /** Adds instructions, written as a letter and a number each, like "p5 p-2 +". */
    private static void load(Meshyard yard, int node, String code) {
        for (String one : code.split(" ")) {
            yard.program(node, one.charAt(0), one.length() > 1 ? Integer.parseInt(one.substring(1)) : 0);
        }
    }

    /** A yard of 2 nodes whose core 0 was started with a program, and as many beats passed. */
    private static Meshyard ran(String code, int beats) {
        Meshyard yard = yard(2, 1);
        load(yard, 0, code);
        yard.start(0);
        if (beats > 0) {
            yard.beats(beats);
        }
        return yard;
    }

    private static void promise28Program() {
        Meshyard yard = yard(2, 2);
        char[] names = {'p', 'l', 's', '+', '-', '*', 'd', 'r', 'j', 'b', 'h'};
        for (int i = 0; i < names.length; i++) {
            same("how many", i + 1, yard.program(3, names[i], 3));
        }
        same("the twelfth", 12, yard.program(3, 'p', Integer.MIN_VALUE));
        raises("no thirteenth", NOT_NOW, yard, () -> yard.program(3, 'p', 1));
        same("of its own", 1, yard.program(2, 'j', 11));
        for (char name : new char[] {'p', '+', '-', '*', 'b', 'h'}) {
            same("any number", 1, yard(1, 1).program(0, name, Integer.MIN_VALUE));
            same("any number", 1, yard(1, 1).program(0, name, Integer.MAX_VALUE));
        }
        Meshyard more = ran("p4 h", 2);
        same("added to one that halted", 3, more.program(0, 'h', 0));
    }

    private static void promise28ProgramThrows() {
        Meshyard yard = yard(3, 1);
        for (int node : new int[] {-1, 3, Integer.MIN_VALUE, Integer.MAX_VALUE}) {
            raises("no node", NO_SUCH, yard, () -> yard.program(node, '?', 1));
        }
        for (char name : new char[] {'?', 'P', '/', 'c', 0, ' ', (char) 65535}) {
            raises("no instruction", OFF_RANGE, yard, () -> yard.program(0, name, 1));
        }
        char[] names = {'l', 's', 'd', 'r', 'j'};
        int[] most = {7, 7, 2, 2, 11};
        for (int i = 0; i < names.length; i++) {
            char name = names[i];
            for (int number : new int[] {-1, most[i] + 1, Integer.MIN_VALUE, Integer.MAX_VALUE}) {
                raises("the number " + number + " by " + name, OFF_RANGE, yard, () -> yard.program(0, name, number));
            }
            yard.program(0, name, 0);
            yard.program(0, name, most[i]);
        }
        same("ten are added", 10, yard.clear(0));
        load(yard, 0, "r0 p1 p1 p1 p1 p1 p1 p1 p1 p1 p1");
        yard.start(0);
        raises("it runs", NOT_NOW, yard, () -> yard.program(0, 'h', 0));
        raises("it runs, and there is no such number", OFF_RANGE, yard, () -> yard.program(0, 'l', 8));
        yard.beats(1);
        raises("it waits for a message", NOT_NOW, yard, () -> yard.program(0, 'h', 0));
        load(yard, 1, "b");
        yard.start(1);
        yard.beats(1);
        same("at the barrier", 'b', yard.core(1));
        raises("it waits at the barrier", NOT_NOW, yard, () -> yard.program(1, 'h', 0));
    }

    private static void promise29Clear() {
        Meshyard yard = ran("p1 p2 s3 h", 4);
        same("how many", 4, yard.clear(0));
        same("none now", 0, yard.clear(0));
        same("its state stays", 'h', yard.core(0));
        same("its instruction stays", 3, yard.at(0));
        same("its stack stays", 1, yard.top(0));
        same("its memory stays", 2, yard.memory(0, 3));
        same("from the first one", 1, yard.program(0, 'p', 9));
        Meshyard stopped = ran("p1 +", 2);
        stopped.clear(0);
        same("its fault stays", 'u', stopped.fault(0));
        for (int node : new int[] {-1, 2, Integer.MAX_VALUE}) {
            raises("no node", NO_SUCH, yard, () -> yard.clear(node));
        }
        Meshyard running = ran("r1", 0);
        raises("it runs", NOT_NOW, running, () -> running.clear(0));
        running.beats(1);
        raises("it waits", NOT_NOW, running, () -> running.clear(0));
        load(running, 1, "b");
        running.start(1);
        running.beats(1);
        raises("it waits at the barrier", NOT_NOW, running, () -> running.clear(1));
    }

    private static void promise30Start() {
        Meshyard yard = yard(4, 1);
        raises("no program", CANNOT, yard, () -> yard.start(0));
        for (int node : new int[] {-1, 4, Integer.MIN_VALUE}) {
            raises("no node", NO_SUCH, yard, () -> yard.start(node));
        }
        load(yard, 0, "r1");
        load(yard, 1, "b");
        load(yard, 2, "p1 p2 h");
        load(yard, 3, "h");
        same("one", 1, yard.start(0));
        same("two", 2, yard.start(1));
        yard.beats(2);
        same("one waits, one waits at the barrier, one runs", 3, yard.start(2));
        raises("it runs", NOT_NOW, yard, () -> yard.start(2));
        raises("it waits", NOT_NOW, yard, () -> yard.start(0));
        raises("it waits at the barrier", NOT_NOW, yard, () -> yard.start(1));
        yard.beats(3);
        same("one that halted does not count", 3, yard.start(3));
        same("its stack", 2, yard.top(2));
        same("again", 4, yard.start(2));
        raises("its stack is empty", NONE, yard, () -> yard.top(2));
        same("at the first one", 0, yard.at(2));
        same("it runs", 'r', yard.core(2));
        Meshyard stopped = ran("+", 1);
        same("one that stopped starts again", 1, stopped.start(0));
        same("it runs", 'r', stopped.core(0));
        raises("its fault is gone", NONE, stopped, () -> stopped.fault(0));
        Meshyard cleared = ran("h", 1);
        cleared.clear(0);
        raises("no program any more", CANNOT, cleared, () -> cleared.start(0));
    }

    private static void promise31Core() {
        Meshyard yard = yard(2, 1);
        same("never started", '-', yard.core(0));
        load(yard, 0, "p5 r1 b h");
        same("a program alone starts nothing", '-', yard.core(0));
        load(yard, 1, "r0 +");
        yard.start(0);
        yard.start(1);
        same("it runs", 'r', yard.core(0));
        yard.beats(1);
        same("it runs", 'r', yard.core(0));
        same("it waits for a message", 'w', yard.core(1));
        yard.beats(1);
        same("it waits for a message", 'w', yard.core(0));
        yard.send(1, 0, 3, 1);
        yard.beats(5);
        same("it received it, and runs", 'r', yard.core(0));
        yard.beats(1);
        same("at the barrier", 'b', yard.core(0));
        yard.send(0, 1, 3, 1);
        yard.beats(4);
        same("delivered in this beat, behind the cores", 'w', yard.core(1));
        yard.beats(1);
        same("received", 'r', yard.core(1));
        same("1 runs, so 0 waits on", 'b', yard.core(0));
        yard.beats(1);
        same("stopped by a fault", 'x', yard.core(1));
        same("on behind the barrier", 'r', yard.core(0));
        yard.beats(1);
        same("halted", 'h', yard.core(0));
        for (int node : new int[] {-1, 2, Integer.MIN_VALUE, Integer.MAX_VALUE}) {
            raises("no node", NO_SUCH, yard, () -> yard.core(node));
        }
    }

    /** The instruction in the beat given meets a fault, and the stack, the memory and the instruction stay. */
    private static Meshyard stops(String code, int beat, char fault) {
        Meshyard before = ran(code, beat - 1);
        Meshyard yard = ran(code, beat);
        same(code + " runs until then", 'r', before.core(0));
        same(code + " stops", 'x', yard.core(0));
        same(code + " by", fault, yard.fault(0));
        same(code + ", the instruction stays", before.at(0), yard.at(0));
        same(code + ", the stack stays", topOf(before), topOf(yard));
        same(code + ", the memory stays", before.memory(0, 0), yard.memory(0, 0));
        yard.beats(3);
        same(code + " stays stopped", 'x', yard.core(0));
        return yard;
    }

    private static Object topOf(Meshyard yard) {
        try {
            return yard.top(0);
        } catch (RuntimeException e) {
            return "none";
        }
    }

    private static void promise32FaultU() {
        stops("s0", 1, 'u');
        stops("+", 1, 'u');
        stops("-", 1, 'u');
        stops("*", 1, 'u');
        stops("d1", 1, 'u');
        stops("j0", 1, 'u');
        same("one word stays", 4, stops("p4 +", 2, 'u').top(0));
        same("one word stays", 4, stops("p4 -", 2, 'u').top(0));
        same("one word stays", 4, stops("p4 *", 2, 'u').top(0));
        stops("p4 s0 s0", 3, 'u');
        same("no packet is made", 0, stops("d1", 1, 'u').packets());
        Meshyard yard = ran("p1 h", 5);
        raises("it halted", NONE, yard, () -> yard.fault(0));
        raises("it was not started", NONE, yard, () -> yard.fault(1));
        yard.start(0);
        raises("it runs", NONE, yard, () -> yard.fault(0));
        for (int node : new int[] {-1, 2, Integer.MAX_VALUE}) {
            raises("no node", NO_SUCH, yard, () -> yard.fault(node));
        }
    }

    private static void promise32FaultO() {
        same("six fit", 6, ran("p1 p2 p3 p4 p5 p6 h", 7).top(0));
        same("six fit", 'h', ran("p1 p2 p3 p4 p5 p6 h", 7).core(0));
        same("a seventh does not", 6, stops("p1 p2 p3 p4 p5 p6 p7", 7, 'o').top(0));
        same("by l neither", 6, stops("p1 p2 p3 p4 p5 p6 l0", 7, 'o').top(0));
        same("what pops makes room", 'h', ran("p1 p2 p3 p4 p5 p6 + p7 h", 9).core(0));
    }

    private static void promise32FaultJ() {
        same("behind the last one", 1, stops("p1", 2, 'j').at(0));
        same("behind a jump", 11, stops("p1 j11 h", 3, 'j').at(0));
        same("behind a jump just behind the last one", 3, stops("p1 j3 h", 3, 'j').at(0));
        same("the jump itself is done", 'r', ran("p1 j11 h", 2).core(0));
        same("all twelve are done, and no more", 12,
            stops("p1 p1 p1 p1 p1 p1 + + + + + s0", 13, 'j').at(0));
        Meshyard barrier = ran("b", 1);
        same("behind the barrier", 1, barrier.at(0));
        barrier.beats(1);
        same("behind the barrier", 'j', barrier.fault(0));
    }

    private static void promise32FaultP() {
        Meshyard yard = filled(199);
        load(yard, 0, "p7 p8 d1 d1 h");
        yard.start(0);
        yard.beats(4);
        same("the last one is made", 200, yard.packets());
        same("its word", 8, yard.word(199));
        same("no room", 'p', yard.fault(0));
        same("the word stays", 7, yard.top(0));
        same("the instruction stays", 3, yard.at(0));

        Meshyard kept = filled(198);
        kept.ask(1, 0, 0, false, 0);
        load(kept, 0, "p7 d1");
        kept.start(0);
        kept.beats(2);
        same("the answer's room is kept", 'p', kept.fault(0));

        Meshyard empty = filled(200);
        load(empty, 0, "d1");
        empty.start(0);
        empty.beats(1);
        same("the pop comes first", 'u', empty.fault(0));
    }

    private static void promise33Memory() {
        Meshyard yard = new Meshyard();
        for (int node = 0; node < 16; node++) {
            for (int place = 0; place < 8; place++) {
                same("at first", 0, yard.memory(node, place));
                yard.set(node, place, node * 8 + place);
            }
        }
        for (int node = 0; node < 16; node++) {
            for (int place = 0; place < 8; place++) {
                same("of its own", node * 8 + place, yard.memory(node, place));
            }
        }
        for (int node : new int[] {-1, 16, Integer.MIN_VALUE, Integer.MAX_VALUE}) {
            raises("no node", NO_SUCH, yard, () -> yard.memory(node, 8));
        }
        for (int place : new int[] {-1, 8, Integer.MIN_VALUE, Integer.MAX_VALUE}) {
            raises("no place", OFF_RANGE, yard, () -> yard.memory(0, place));
        }
    }

    private static void promise34Set() {
        Meshyard yard = yard(2, 1);
        same("before", 0, yard.set(1, 7, Integer.MAX_VALUE));
        same("before", Integer.MAX_VALUE, yard.set(1, 7, -3));
        same("now", -3, yard.memory(1, 7));
        same("no other place", 0, yard.memory(1, 6));
        same("no other node", 0, yard.memory(0, 7));
        for (int node : new int[] {-1, 2, Integer.MIN_VALUE}) {
            raises("no node", NO_SUCH, yard, () -> yard.set(node, 8, 1));
        }
        for (int place : new int[] {-1, 8, Integer.MIN_VALUE, Integer.MAX_VALUE}) {
            raises("no place", OFF_RANGE, yard, () -> yard.set(0, place, 1));
        }
    }

    private static void promise35Top() {
        Meshyard yard = ran("p5 p-6 s1 s1 h", 0);
        raises("empty", NONE, yard, () -> yard.top(0));
        raises("never started", NONE, yard, () -> yard.top(1));
        yard.beats(1);
        same("the first one", 5, yard.top(0));
        yard.beats(1);
        same("the second one", -6, yard.top(0));
        yard.beats(1);
        same("the first one again", 5, yard.top(0));
        yard.beats(1);
        raises("empty again", NONE, yard, () -> yard.top(0));
        for (int node : new int[] {-1, 2, Integer.MAX_VALUE}) {
            raises("no node", NO_SUCH, yard, () -> yard.top(node));
        }
    }

    private static void promise36At() {
        Meshyard yard = ran("p5 r1 b h", 0);
        raises("not started", NONE, yard, () -> yard.at(1));
        same("the first one", 0, yard.at(0));
        yard.beats(1);
        same("the second one", 1, yard.at(0));
        yard.beats(1);
        same("it waits there", 1, yard.at(0));
        yard.send(1, 0, 1, 1);
        yard.beats(5);
        same("received", 2, yard.at(0));
        load(yard, 1, "p1 p1 h");
        yard.start(1);
        yard.beats(1);
        same("it waits at the barrier", 2, yard.at(0));
        yard.beats(1);
        same("it waits at the barrier", 2, yard.at(0));
        yard.beats(1);
        same("on behind it", 3, yard.at(0));
        yard.beats(5);
        same("it halted there", 3, yard.at(0));
        for (int node : new int[] {-1, 2, Integer.MIN_VALUE}) {
            raises("no node", NO_SUCH, yard, () -> yard.at(node));
        }
    }

    private static void reckoning() {
        same("a sum", 12, ran("p7 p5 + h", 4).top(0));
        same("the first one less the second one", 2, ran("p7 p5 - h", 4).top(0));
        same("a product", -35, ran("p7 p-5 * h", 4).top(0));
        same("one word is left", 9, ran("p9 p7 p5 - s0 h", 6).top(0));
        same("one word is left", 2, ran("p9 p7 p5 - s0 h", 6).memory(0, 0));
        same("goes round", Integer.MIN_VALUE, ran("p2147483647 p1 + h", 4).top(0));
        same("goes round", Integer.MAX_VALUE, ran("p-2147483648 p1 - h", 4).top(0));
        same("goes round", 1 << 31, ran("p65536 p32768 * h", 4).top(0));
        same("goes round", 0, ran("p65536 p65536 * h", 4).top(0));
        Meshyard yard = yard(2, 1);
        yard.set(0, 7, 44);
        yard.set(1, 7, 55);
        load(yard, 0, "l7 s2 h");
        yard.start(0);
        yard.beats(3);
        same("loaded and stored", 44, yard.memory(0, 2));
        same("it stays where it was", 44, yard.memory(0, 7));
    }

    private static void jumping() {
        same("not by 0", 2, ran("p0 j0 h", 3).at(0));
        same("by 1", 0, ran("p1 j0 h", 2).at(0));
        same("by any other word", 0, ran("p-9 j0 h", 2).at(0));
        raises("the word is popped", NONE, ran("p1 j3 h h", 4), () -> ran("p1 j3 h h", 4).top(0));
        Meshyard loop = yard(2, 1);
        loop.set(0, 0, 5);
        load(loop, 0, "l0 p-1 + s0 l1 p2 + s1 l0 j0 h");
        loop.start(0);
        loop.beats(51);
        same("counted down", 0, loop.memory(0, 0));
        same("counted up", 10, loop.memory(0, 1));
        same("halted", 'h', loop.core(0));
    }

    private static void sending() {
        Meshyard yard = ran("p7 p8 d1 d0 h", 2);
        same("none yet", 0, yard.packets());
        yard.beats(1);
        same("a message", 'm', yard.kind(0));
        same("the top word", 8, yard.word(0));
        same("its head is put in in the same beat", 'w', yard.state(0));
        same("the other word is left", 7, yard.top(0));
        yard.beats(20);
        same("there", 0, yard.receive(1, 0));
        same("with 1 body", 4, yard.time(0));
        same("to itself", 1, yard.receive(0, 0));
        same("its word", 7, yard.word(1));
        same("halted", 'h', yard.core(0));
    }

    private static void receiving() {
        Meshyard yard = ran("r1 r1 - h", 3);
        same("it waits", 'w', yard.core(0));
        yard.send(0, 0, 50, 1);
        yard.beats(9);
        same("not for one of itself", 'w', yard.core(0));
        yard.send(1, 0, 30, 4);
        yard.send(1, 0, 4, 1);
        yard.beats(7);
        same("delivered behind the cores", 'w', yard.core(0));
        same("delivered", 1, yard.lying(0, 1));
        yard.beats(1);
        same("received", 'r', yard.state(1));
        same("its word", 30, yard.top(0));
        same("none lies there", 0, yard.lying(0, 1));
        yard.beats(9);
        same("both words, in their order", 26, yard.top(0));
        same("halted", 'h', yard.core(0));
        same("the one of itself lies there still", 1, yard.lying(0, 0));

        // 1 goes by node 1 and is held up there, so that 2 overtakes it by node 2
        Meshyard first = yard(2, 2);
        first.way('t');
        first.send(1, 3, 7, 4);
        first.send(0, 3, 8, 1);
        first.send(0, 3, 9, 1);
        first.beats(30);
        load(first, 3, "r0 r0 h");
        first.start(3);
        first.beats(1);
        same("that which was delivered first", 9, first.top(3));
        first.beats(1);
        same("then the other one", 8, first.top(3));
    }

    /** The message is not taken, since its word finds no room. */
    private static void receivingToAFullStack() {
        Meshyard yard = ran("p1 p2 p3 p4 p5 p6 r1 h", 8);
        same("none is there, so it waits", 'w', yard.core(0));
        yard.send(1, 0, 30, 1);
        yard.beats(5);
        same("a push to a full stack", 'o', yard.fault(0));
        same("the stack stays", 6, yard.top(0));
        same("the instruction stays", 6, yard.at(0));
        same("the message lies there", 1, yard.lying(0, 1));
        same("the message lies there", 'd', yard.state(0));
    }

    private static void barrier() {
        Meshyard yard = yard(3, 1);
        load(yard, 0, "b p1 h");
        load(yard, 1, "p1 p2 p3 b p4 h");
        load(yard, 2, "r0 b h");
        yard.start(0);
        yard.start(1);
        yard.start(2);
        yard.beats(4);
        same("it waits for the others", 'b', yard.core(0));
        same("it waits for the others", 'b', yard.core(1));
        same("it waits for a message", 'w', yard.core(2));
        yard.send(0, 2, 1, 1);
        yard.beats(5);
        same("received in the beat 6", 'w', yard.core(2));
        yard.beats(1);
        same("received", 'r', yard.core(2));
        same("they wait on", 'b', yard.core(0));
        yard.beats(1);
        same("as this beat ends all run on", 'r', yard.core(0));
        same("as this beat ends all run on", 'r', yard.core(1));
        same("also the last one", 'r', yard.core(2));
        same("behind it", 1, yard.at(0));
        same("behind it", 4, yard.at(1));
        same("behind it", 2, yard.at(2));
        yard.beats(1);
        same("the next one is done in the next beat", 1, yard.top(0));
        same("the next one is done in the next beat", 4, yard.top(1));
        same("the next one is done in the next beat", 'h', yard.core(2));

        Meshyard left = yard(2, 1);
        load(left, 0, "b h");
        load(left, 1, "p1 +");
        left.start(0);
        left.start(1);
        left.beats(1);
        same("1 runs", 'b', left.core(0));
        left.beats(1);
        same("1 stopped", 'x', left.core(1));
        same("none runs any more", 'r', left.core(0));
    }

    private static void barrierOfOne() {
        Meshyard yard = ran("b b h", 1);
        same("it alone runs on as the beat ends", 'r', yard.core(0));
        same("behind it", 1, yard.at(0));
        yard.beats(1);
        same("behind the second one", 2, yard.at(0));
        yard.beats(1);
        same("halted", 'h', yard.core(0));
    }

    private static void oneInstructionABeatByNumbers() {
        Meshyard yard = filled(199);
        load(yard, 0, "p1 d0 h");
        load(yard, 1, "p1 d0 h");
        yard.start(1);
        yard.start(0);
        yard.beats(2);
        same("node 0 is ahead, and makes the last packet", 'r', yard.core(0));
        same("node 1 finds no room", 'p', yard.fault(1));
    }
}

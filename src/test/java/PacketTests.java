/** Promises 1 to 14. In a free net a packet of n bodies and d steps takes 2 + n + d beats. */
public final class PacketTests extends Check {
    private static final int[] NO_NODES = {-1, 16, Integer.MIN_VALUE, Integer.MAX_VALUE};

    public static void main(String[] args) {
        promise1NewObject();
        promise2Send();
        promise2SendThrows();
        promise3Multicast();
        promise4Ask();
        promise4AskRoom();
        promise5Answer();
        promise6Kind();
        promise7State();
        promise8Word();
        promise9Head();
        promise10Pieces();
        promise11Time();
        promise12Packets();
        promise13Lying();
        promise14Receive();
        noSuchPacket();
        end("PacketTests");
    }

    private static void promise1NewObject() {
        Meshyard yard = new Meshyard();
        same("packets at first", 0, yard.packets());
        same("beats at first", 0, yard.beat());
        same("the way at first", 'x', yard.way('x'));
        same("places at first", 2, yard.places(2));
        same("the last node is there", 0, yard.memory(15, 7));
        raises("node 16 is not", NO_SUCH, yard, () -> yard.memory(16, 0));
        raises("node 3 has no link e", CANNOT, yard, () -> yard.fail(3, 'e', true));
        same("node 3 has a link s", false, yard.fail(3, 's', false));
        raises("node 12 has no link s", CANNOT, yard, () -> yard.fail(12, 's', true));
        for (int node = 0; node < 16; node++) {
            same("core at first", '-', yard.core(node));
            isTrue("awake at first", yard.isAwake(node));
        }
        same("two objects share nothing", 0, new Meshyard().set(3, 3, 5));
        same("two objects share nothing", 0, yard.memory(3, 3));
    }

    private static void promise2Send() {
        for (int bodies = 1; bodies <= 4; bodies++) {
            for (int goal = 0; goal < 4; goal++) {
                Meshyard yard = yard(4, 1);
                same("its number", 0, yard.send(0, goal, Integer.MIN_VALUE, bodies));
                yard.beats(1 + bodies + goal);
                same("not yet there", 'w', yard.state(0));
                yard.beats(1);
                same("delivered in this beat", 'd', yard.state(0));
                same("time", 2 + bodies + goal, yard.time(0));
                same("its word", Integer.MIN_VALUE, yard.word(0));
                same("it lies there", 1, yard.lying(goal, 0));
            }
        }
        Meshyard yard = filled(199);
        same("the last number", 199, yard.send(1, 1, 0, 4));
    }

    private static void promise2SendThrows() {
        Meshyard yard = new Meshyard();
        for (int node : NO_NODES) {
            raises("send from no node", NO_SUCH, yard, () -> yard.send(node, 0, 1, 9));
            raises("send to no node", NO_SUCH, yard, () -> yard.send(0, node, 1, 9));
        }
        for (int bodies : new int[] {0, 5, -1, Integer.MIN_VALUE, Integer.MAX_VALUE}) {
            raises("send so many bodies", OFF_RANGE, yard, () -> yard.send(0, 1, 1, bodies));
        }
        Meshyard full = filled(200);
        raises("send to a full yard", NOT_NOW, full, () -> full.send(0, 1, 1, 1));
        raises("send 5 bodies to a full yard", OFF_RANGE, full, () -> full.send(0, 1, 1, 5));
        raises("send to no node of a full yard", NO_SUCH, full, () -> full.send(0, 2, 1, 5));
        full.beats(100);
        raises("delivered packets are counted", NOT_NOW, full, () -> full.send(0, 1, 1, 1));
        full.net(2, 1);
        same("a new chip has room", 0, full.send(0, 1, 1, 1));
    }

    private static void promise3Multicast() {
        Meshyard yard = yard(3, 2);
        yard.send(5, 5, 3, 2);
        same("how many", 3, yard.multicast(2, 0b100101, -7));
        same("packets", 4, yard.packets());
        yard.beats(30);
        int[] goals = {0, 2, 5};
        for (int i = 0; i < 3; i++) {
            same("kind", 'm', yard.kind(i + 1));
            same("word", -7, yard.word(i + 1));
            same("lies there", i + 1, yard.receive(goals[i], 2));
        }
        Meshyard alone = yard(1, 1);
        same("to itself alone", 1, alone.multicast(0, 1, 1));
        alone.beats(3);
        same("it has 1 body", 3, alone.time(0));
        Meshyard wide = new Meshyard();
        same("to all", 16, wide.multicast(9, 0xFFFF, 1));

        for (int node : NO_NODES) {
            raises("multicast from no node", NO_SUCH, wide, () -> wide.multicast(node, 0, 1));
        }
        for (int goals2 : new int[] {0, 64, 127, 1 << 31, -1, 1 << 16}) {
            raises("multicast to such goals", OFF_RANGE, yard, () -> yard.multicast(0, goals2, 1));
        }
        Meshyard full = filled(198);
        same("room for two", 2, full.multicast(0, 3, 1));
        Meshyard nearly = filled(199);
        raises("no room for all", NOT_NOW, nearly, () -> nearly.multicast(0, 3, 1));
        raises("no room, and no goals", OFF_RANGE, nearly, () -> nearly.multicast(0, 0, 1));
        raises("no room, and no node", NO_SUCH, nearly, () -> nearly.multicast(2, 0, 1));
        same("room for one", 1, nearly.multicast(0, 2, 1));
    }

    private static void promise4Ask() {
        Meshyard yard = yard(3, 1);
        yard.set(2, 7, 40);
        same("its number", 0, yard.ask(0, 2, 7, false, 99));
        same("the next number", 1, yard.ask(0, 2, 7, true, 2));
        // 2 + 1 + 2 beats for the first one, the second one waits a beat for a row that belongs to the first
        yard.beats(5);
        same("nothing is added by a plain question", 40, yard.memory(2, 7));
        same("the answer is made", 3, yard.packets());
        yard.beats(2);
        same("not yet added", 40, yard.memory(2, 7));
        yard.beats(1);
        same("added", 42, yard.memory(2, 7));
        yard.beats(4);
        same("the first answer", 40, yard.word(2));
        same("the second answer has the word ahead of the sum", 40, yard.word(3));
        same("to its source", 'd', yard.state(3));
        same("the beat in which it was made is counted", 5, yard.time(2));

        Meshyard own = yard(1, 1);
        own.set(0, 0, Integer.MAX_VALUE);
        own.ask(0, 0, 0, true, 1);
        own.beats(10);
        same("goes round", Integer.MIN_VALUE, own.memory(0, 0));
        same("asked of itself", 'd', own.state(1));
    }

    private static void promise4AskRoom() {
        Meshyard yard = new Meshyard();
        for (int node : NO_NODES) {
            raises("ask from no node", NO_SUCH, yard, () -> yard.ask(node, 0, 8, false, 0));
            raises("ask no node", NO_SUCH, yard, () -> yard.ask(0, node, 8, false, 0));
        }
        for (int place : new int[] {-1, 8, Integer.MIN_VALUE, Integer.MAX_VALUE}) {
            raises("ask for such a place", OFF_RANGE, yard, () -> yard.ask(0, 1, place, false, 0));
        }
        Meshyard tight = filled(199);
        raises("no room for the answer", NOT_NOW, tight, () -> tight.ask(0, 1, 0, false, 0));
        raises("no room, and no place", OFF_RANGE, tight, () -> tight.ask(0, 1, 8, false, 0));
        raises("no room, and no node", NO_SUCH, tight, () -> tight.ask(0, 2, 8, false, 0));

        Meshyard last = filled(198);
        same("room for both", 198, last.ask(1, 0, 0, false, 0));
        raises("the room of the answer is kept from the start", NOT_NOW, last, () -> last.send(0, 1, 1, 1));
        last.beats(4);
        same("answered", 199, last.answer(198));
        same("all are made", 200, last.packets());
        raises("full", NOT_NOW, last, () -> last.send(0, 1, 1, 1));

        Meshyard lost = yard(2, 1);
        lost.multicast(0, 1, 1);
        while (lost.packets() < 198) {
            lost.send(0, 0, 1, 1);
        }
        lost.ask(1, 0, 0, false, 0);
        lost.fail(0, 'e', true);
        lost.beats(2);
        same("the question is lost", 'l', lost.state(198));
        same("its answer's room is free again", 199, lost.send(0, 1, 1, 1));
        raises("full", NOT_NOW, lost, () -> lost.send(0, 1, 1, 1));
        roomBehindQuestions();
    }

    /** A question that was answered takes two places, a lost one takes one, and a lost message no less than one. */
    private static void roomBehindQuestions() {
        Meshyard yard = yard(2, 1);
        for (int i = 0; i < 5; i++) {
            yard.ask(0, 1, 0, false, 0);
        }
        yard.beats(60);
        same("five are answered", 10, yard.packets());
        yard.fail(0, 'e', true);
        yard.ask(0, 1, 0, false, 0);
        yard.send(0, 1, 0, 1);
        yard.send(0, 1, 0, 1);
        yard.beats(10);
        same("three are lost", 3.0f / 13.0f, yard.lostShare());
        for (int packet = 13; packet < 200; packet++) {
            same("room", packet, yard.send(1, 1, 0, 1));
        }
        raises("full", NOT_NOW, yard, () -> yard.send(1, 1, 0, 1));
        Meshyard anew = yard(2, 1);
        anew.ask(0, 1, 0, false, 0);
        anew.net(2, 1);
        for (int packet = 0; packet < 200; packet++) {
            same("room on a new chip", packet, anew.send(1, 1, 0, 1));
        }
        raises("full", NOT_NOW, anew, () -> anew.send(1, 1, 0, 1));
        callsOnAFullYard(anew);
    }

    private static void callsOnAFullYard(Meshyard yard) {
        yard.beats(100);
        yard.fail(0, 'e', true);
        same("the last one", 's', yard.state(199));
        same("none of 0", 0, yard.lying(1, 0));
        raises("none of 0", NONE, yard, () -> yard.receive(1, 0));
        same("the first of 1", 0, yard.receive(1, 1));
        same("none lost", 0.0f, yard.lostShare());
        isTrue("some delivered", yard.meanTime() > 3.0);
        isTrue("sound", yard.isSound());
        yard.beats(100);
        yard.beats(100);
        yard.beats(100);
        same("the tail of the last one is put in as the beat 400 ends", 'w', yard.state(199));
        yard.beats(1);
        same("and taken in the next one", 401, yard.time(199));
    }

    private static void promise5Answer() {
        Meshyard yard = yard(2, 1);
        yard.send(0, 0, 1, 1);
        yard.ask(0, 1, 0, false, 0);
        yard.ask(0, 1, 1, false, 0);
        raises("it was not delivered", NONE, yard, () -> yard.answer(1));
        raises("a message", OFF_RANGE, yard, () -> yard.answer(0));
        yard.beats(20);
        same("the answer", 3, yard.answer(1));
        same("the next answer", 4, yard.answer(2));
        raises("an answer", OFF_RANGE, yard, () -> yard.answer(3));
        raises("no packet", NO_SUCH, yard, () -> yard.answer(5));

        Meshyard lost = yard(2, 1);
        lost.fail(0, 'e', true);
        lost.ask(0, 1, 0, false, 0);
        lost.beats(5);
        raises("a lost question", NONE, lost, () -> lost.answer(0));
    }

    private static void promise6Kind() {
        Meshyard yard = yard(2, 1);
        yard.ask(0, 1, 0, false, 0);
        yard.send(0, 1, 1, 1);
        yard.beats(20);
        same("a question", 'q', yard.kind(0));
        same("a message", 'm', yard.kind(1));
        same("an answer", 'a', yard.kind(2));
    }

    private static void promise7State() {
        Meshyard yard = yard(2, 1);
        yard.send(0, 1, 1, 1);
        yard.send(0, 1, 1, 1);
        same("waits at its source", 's', yard.state(0));
        yard.beats(1);
        same("its head is in a row", 'w', yard.state(0));
        same("the next one still waits", 's', yard.state(1));
        yard.beats(2);
        same("the next one is on the way", 'w', yard.state(1));
        yard.beats(1);
        same("delivered", 'd', yard.state(0));
        yard.receive(1, 0);
        same("received", 'r', yard.state(0));
        yard.ask(0, 1, 0, false, 0);
        yard.beats(20);
        same("a question stays delivered", 'd', yard.state(2));
        same("an answer stays delivered", 'd', yard.state(3));
        yard.fail(1, 'w', true);
        yard.send(1, 0, 1, 4);
        yard.beats(1);
        same("not looked at yet", 'w', yard.state(4));
        yard.beats(1);
        same("lost", 'l', yard.state(4));
        yard.beats(9);
        same("lost for good", 'l', yard.state(4));
    }

    private static void promise8Word() {
        Meshyard yard = yard(2, 1);
        yard.set(1, 2, 77);
        yard.send(0, 1, -5, 3);
        yard.ask(0, 1, 2, true, 9);
        same("of a message", -5, yard.word(0));
        same("of a question", 0, yard.word(1));
        yard.beats(20);
        same("of a question, delivered", 0, yard.word(1));
        same("of an answer", 77, yard.word(2));
    }

    private static void promise9Head() {
        Meshyard yard = yard(3, 1);
        yard.send(0, 2, 1, 4);
        raises("at its source", NONE, yard, () -> yard.head(0));
        for (int beat = 1; beat <= 3; beat++) {
            yard.beats(1);
            same("a step a beat", beat - 1, yard.head(0));
        }
        yard.beats(1);
        raises("taken by the core, its bodies not", NONE, yard, () -> yard.head(0));
        same("its bodies are on the way", 'w', yard.state(0));
        yard.fail(1, 'w', true);
        yard.send(1, 0, 1, 4);
        yard.beats(1);
        same("at its router", 1, yard.head(1));
        yard.beats(1);
        raises("lost", NONE, yard, () -> yard.head(1));
    }

    private static void promise10Pieces() {
        Meshyard yard = yard(3, 1);
        yard.send(0, 2, 1, 4);
        int[] due = {0, 1, 2, 3, 3, 3, 2, 1, 0};
        for (int beat = 0; beat < due.length; beat++) {
            same("pieces in rows after beat " + beat, due[beat], yard.pieces(0));
            yard.beats(1);
        }
        yard.fail(1, 'e', true);
        yard.send(0, 2, 1, 4);
        yard.beats(2);
        same("two are in rows", 2, yard.pieces(1));
        yard.beats(1);
        same("none of a lost one", 0, yard.pieces(1));
        same("its rows are empty", 0, yard.row(0, 'c', 0) + yard.row(1, 'w', 0));
    }

    private static void promise11Time() {
        Meshyard yard = yard(2, 1);
        yard.beats(7);
        yard.send(0, 1, 1, 1);
        raises("not delivered yet", NONE, yard, () -> yard.time(0));
        yard.beats(3);
        raises("on the way", NONE, yard, () -> yard.time(0));
        yard.beats(10);
        same("of its own, whatever passed before and behind", 4, yard.time(0));
        yard.receive(1, 0);
        same("received, too", 4, yard.time(0));
        yard.fail(0, 'e', true);
        yard.send(0, 1, 1, 1);
        yard.beats(9);
        raises("lost", NONE, yard, () -> yard.time(1));

        Meshyard busy = yard(1, 1);
        busy.program(0, 'p', 6);
        busy.program(0, 'd', 0);
        busy.start(0);
        busy.beats(6);
        // made in the beat 2, its head put in there, its tail taken in the beat 4: 4 less 1
        same("of a message that a core sends in a beat", 3, busy.time(0));
    }

    private static void promise12Packets() {
        Meshyard yard = yard(2, 1);
        yard.send(0, 1, 1, 1);
        yard.multicast(1, 3, 1);
        yard.ask(0, 1, 1, false, 0);
        same("made", 4, yard.packets());
        yard.beats(50);
        same("with the answer", 5, yard.packets());
    }

    private static void promise13Lying() {
        Meshyard yard = yard(2, 2);
        yard.send(0, 3, 1, 1);
        yard.send(0, 3, 2, 1);
        yard.send(1, 3, 3, 1);
        yard.ask(0, 3, 3, false, 0);
        same("on the way", 0, yard.lying(3, 0));
        yard.beats(40);
        same("two of 0", 2, yard.lying(3, 0));
        same("one of 1", 1, yard.lying(3, 1));
        same("none of 2", 0, yard.lying(3, 2));
        same("answers do not lie", 0, yard.lying(0, 3));
        yard.receive(3, 0);
        same("one is received", 1, yard.lying(3, 0));
        for (int node : new int[] {-1, 4, Integer.MAX_VALUE}) {
            raises("at no node", NO_SUCH, yard, () -> yard.lying(node, 0));
            raises("of no node", NO_SUCH, yard, () -> yard.lying(0, node));
        }
    }

    private static void promise14Receive() {
        Meshyard yard = yard(2, 1);
        for (int i = 0; i < 4; i++) {
            yard.send(i % 2, 1, i, 1);
        }
        raises("none yet", NONE, yard, () -> yard.receive(1, 0));
        yard.beats(30);
        same("the first of 1", 1, yard.receive(1, 1));
        same("the first of 0", 0, yard.receive(1, 0));
        same("the second of 0", 2, yard.receive(1, 0));
        raises("no more of 0", NONE, yard, () -> yard.receive(1, 0));
        same("the second of 1", 3, yard.receive(1, 1));
        raises("none at 0", NONE, yard, () -> yard.receive(0, 1));
        yard.ask(0, 1, 0, false, 0);
        yard.beats(30);
        raises("a question is not received", NONE, yard, () -> yard.receive(1, 0));
        raises("an answer is not received", NONE, yard, () -> yard.receive(0, 1));
        for (int node : new int[] {-1, 2, Integer.MIN_VALUE}) {
            raises("at no node", NO_SUCH, yard, () -> yard.receive(node, 0));
            raises("of no node", NO_SUCH, yard, () -> yard.receive(0, node));
        }
        overtaking();
    }

    /** Delivered first is received first, also if it has the higher number. */
    private static void overtaking() {
        // 1 goes by node 1 and is held there, as the row ahead belongs to 0; so 2 goes by node 2 and is there first
        Meshyard yard = yard(2, 2);
        yard.way('t');
        yard.send(1, 3, 7, 4);
        yard.send(0, 3, 8, 1);
        yard.send(0, 3, 9, 1);
        yard.beats(40);
        same("the lower number is there later", 12, yard.time(1));
        same("the higher number is there first", 8, yard.time(2));
        same("and is received first", 2, yard.receive(3, 0));
        same("and the other behind it", 1, yard.receive(3, 0));
    }

    private static void noSuchPacket() {
        Meshyard yard = yard(2, 1);
        yard.send(0, 1, 1, 1);
        for (int packet : new int[] {-1, 1, 200, Integer.MIN_VALUE, Integer.MAX_VALUE}) {
            raises("answer", NO_SUCH, yard, () -> yard.answer(packet));
            raises("kind", NO_SUCH, yard, () -> yard.kind(packet));
            raises("state", NO_SUCH, yard, () -> yard.state(packet));
            raises("word", NO_SUCH, yard, () -> yard.word(packet));
            raises("head", NO_SUCH, yard, () -> yard.head(packet));
            raises("pieces", NO_SUCH, yard, () -> yard.pieces(packet));
            raises("time", NO_SUCH, yard, () -> yard.time(packet));
        }
    }
}

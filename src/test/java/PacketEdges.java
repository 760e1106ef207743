/** The edges that the promises 1 to 14 name. In a free net a packet of n bodies and d steps takes 2 + n + d beats. */
abstract class PacketEdges extends Edges {
    private static final int[] NO_NODES = {-1, 16, MIN, MAX};

    static void run() {
        newObject();
        send();
        sendRefused();
        multicast();
        multicastRefused();
        ask();
        askRefused();
        answer();
        kind();
        state();
        word();
        head();
        pieces();
        time();
        packets();
        lying();
        receive();
    }

    private static void newObject() {
        of("Promise 1");
        says("Creates a chip of 4 by 4 nodes.");
        Meshyard yard = new Meshyard();
        is('-', yard.core(0));
        is('-', yard.core(15));
        refuses(NO_SUCH, yard, () -> yard.core(-1));
        refuses(NO_SUCH, yard, () -> yard.core(16));
        no(yard.fail(14, 'e', false));
        no(yard.fail(11, 's', false));
        refuses(CANNOT, yard, () -> yard.fail(3, 'e', false));
        refuses(CANNOT, yard, () -> yard.fail(12, 's', false));
        is(Inside.told(new Meshyard()), Inside.told(yard));
        Meshyard again = new Meshyard();
        again.net(4, 4);
        is(Inside.told(again), Inside.told(yard));
    }

    private static void send() {
        of("Promise 2");
        says("Makes a message.");
        Meshyard yard = new Meshyard();
        yard.send(0, 15, MIN, 1);
        yard.send(15, 0, MAX, 1);
        is('m', yard.kind(0));
        is('s', yard.state(0));
        is(MIN, yard.word(0));
        is(MAX, yard.word(1));
        is(0, yard.pieces(0));
        yard.beats(9);
        is(9, yard.time(0));
        is(9, yard.time(1));
        is(0, yard.receive(15, 0));
        is(1, yard.receive(0, 15));

        says("the goal, or the same node");
        Meshyard same = new Meshyard();
        is(0, same.send(0, 0, 1, 1));
        is(1, same.send(15, 15, 1, 4));
        same.beats(6);
        is(3, same.time(0));
        is(6, same.time(1));
        is(0, same.receive(0, 0));
        is(1, same.receive(15, 15));

        says("how many bodies, 1 to 4");
        for (int bodies = 1; bodies <= 4; bodies++) {
            Meshyard one = yard(2, 1);
            is(0, one.send(0, 1, 5, bodies));
            one.beats(2 + bodies);
            is('w', one.state(0));
            one.beats(1);
            is(3 + bodies, one.time(0));
        }
        refuses(OFF_RANGE, yard, () -> yard.send(0, 1, 5, 0));
        refuses(OFF_RANGE, yard, () -> yard.send(0, 1, 5, 5));

        says("Returns its number.");
        Meshyard full = new Meshyard();
        for (int number = 0; number < 200; number++) {
            is(number, full.send(number % 16, number * 7 % 16, number, number % 4 + 1));
        }
        is(199, full.word(199));
    }

    private static void sendRefused() {
        says("Throws `IndexOutOfBoundsException` if there is no such node, for either");
        Meshyard yard = new Meshyard();
        for (int node : NO_NODES) {
            refuses(NO_SUCH, yard, () -> yard.send(node, 0, 1, 1));
            refuses(NO_SUCH, yard, () -> yard.send(0, node, 1, 1));
        }
        for (int width = 1; width <= 4; width++) {
            for (int height = 1; height <= 4; height++) {
                Meshyard sized = yard(width, height);
                int nodes = width * height;
                is(0, sized.send(nodes - 1, nodes - 1, 1, 1));
                refuses(NO_SUCH, sized, () -> sized.send(nodes, 0, 1, 1));
                refuses(NO_SUCH, sized, () -> sized.send(0, nodes, 1, 1));
            }
        }
        Meshyard busy = busy();
        refuses(NO_SUCH, busy, () -> busy.send(6, 0, 1, 1));
        refuses(NO_SUCH, busy, () -> busy.send(0, 6, 1, 1));

        says("Throws `IllegalArgumentException` if a number is out of range");
        for (int bodies : new int[] {0, -1, MIN, 5, MAX}) {
            refuses(OFF_RANGE, yard, () -> yard.send(0, 1, 1, bodies));
            refuses(OFF_RANGE, busy, () -> busy.send(0, 1, 1, bodies));
        }

        says("Throws `IllegalStateException` if there is no room for a packet");
        Meshyard full = filled(199);
        is(199, full.send(0, 1, 1, 1));
        refuses(NOT_NOW, full, () -> full.send(0, 1, 1, 1));
        full.beats(100);
        refuses(NOT_NOW, full, () -> full.send(0, 1, 1, 1));
        full.receive(1, 0);
        refuses(NOT_NOW, full, () -> full.send(0, 1, 1, 1));
        // a question that waits, one on the way, and one that was delivered
        Meshyard asked = filled(198);
        asked.ask(1, 0, 0, false, 0);
        refuses(NOT_NOW, asked, () -> asked.send(0, 1, 1, 1));
        asked.beats(1);
        is('w', asked.state(198));
        refuses(NOT_NOW, asked, () -> asked.send(0, 1, 1, 1));
        asked.beats(9);
        is(200, asked.packets());
        refuses(NOT_NOW, asked, () -> asked.send(0, 1, 1, 1));
        // a lost question needs no answer any more
        Meshyard lost = filled(198);
        lost.fail(0, 'e', true);
        lost.ask(1, 0, 0, false, 0);
        lost.beats(1);
        refuses(NOT_NOW, lost, () -> lost.send(0, 1, 1, 1));
        lost.beats(1);
        is('l', lost.state(198));
        is(199, lost.send(0, 1, 1, 1));
        refuses(NOT_NOW, lost, () -> lost.send(0, 1, 1, 1));
    }

    private static void multicast() {
        of("Promise 3");
        says("Makes a message with 1 body to each of some nodes, by numbers.");
        Meshyard yard = yard(3, 2);
        yard.multicast(2, 0b101101, MIN);
        int[] goals = {0, 2, 3, 5};
        for (int i = 0; i < 4; i++) {
            is('m', yard.kind(i));
            is(MIN, yard.word(i));
        }
        yard.beats(30);
        for (int i = 0; i < 4; i++) {
            is(i, yard.receive(goals[i], 2));
        }
        Meshyard body = yard(1, 1);
        body.multicast(0, 1, 0);
        body.beats(2);
        is('w', body.state(0));
        body.beats(1);
        is('d', body.state(0));

        says("the goals, as bits");
        for (int node = 0; node < 16; node++) {
            Meshyard one = new Meshyard();
            is(1, one.multicast(15 - node, 1 << node, 7));
            one.beats(9);
            is(0, one.receive(node, 15 - node));
        }
        Meshyard itself = new Meshyard();
        is(1, itself.multicast(9, 1 << 9, 7));
        itself.beats(3);
        is(0, itself.receive(9, 9));

        says("Returns how many are made.");
        is(1, new Meshyard().multicast(0, 1, 0));
        is(1, new Meshyard().multicast(0, 1 << 15, 0));
        is(16, new Meshyard().multicast(0, 0xFFFF, 0));
        is(15, new Meshyard().multicast(0, 0xFFFE, 0));
        is(6, yard(3, 2).multicast(5, 63, 0));
    }

    private static void multicastRefused() {
        says("Throws `IndexOutOfBoundsException` if there is no such node");
        Meshyard yard = new Meshyard();
        for (int node : NO_NODES) {
            refuses(NO_SUCH, yard, () -> yard.multicast(node, 1, 1));
        }
        Meshyard busy = busy();
        refuses(NO_SUCH, busy, () -> busy.multicast(6, 1, 1));

        says("Throws `IllegalArgumentException` if there is another node among them, or none");
        for (int goals : new int[] {0, 1 << 16, 0x10001, 0x1FFFF, MIN, MIN + 1, -1, MAX}) {
            refuses(OFF_RANGE, yard, () -> yard.multicast(0, goals, 1));
        }
        for (int goals : new int[] {0, 64, 65, 127, 1 << 15, MIN, -1}) {
            refuses(OFF_RANGE, busy, () -> busy.multicast(0, goals, 1));
        }
        Meshyard alone = yard(1, 1);
        is(1, alone.multicast(0, 1, 1));
        refuses(OFF_RANGE, alone, () -> alone.multicast(0, 2, 1));
        refuses(OFF_RANGE, alone, () -> alone.multicast(0, 3, 1));

        says("Throws `IllegalStateException` if there is no room for all of them");
        Meshyard full = filled(197);
        is(1, full.multicast(0, 2, 1));
        is(2, full.multicast(0, 3, 1));
        refuses(NOT_NOW, full, () -> full.multicast(0, 1, 1));
        refuses(NOT_NOW, full, () -> full.multicast(0, 3, 1));
        Meshyard one = filled(199);
        refuses(NOT_NOW, one, () -> one.multicast(0, 3, 1));
        is(1, one.multicast(1, 2, 1));
        Meshyard asked = filled(196);
        asked.ask(0, 1, 0, false, 0);
        is(2, asked.multicast(0, 3, 1));
        refuses(NOT_NOW, asked, () -> asked.multicast(0, 1, 1));
        Meshyard wide = new Meshyard();
        for (int i = 0; i < 12; i++) {
            is(16, wide.multicast(i, 0xFFFF, i));
        }
        refuses(NOT_NOW, wide, () -> wide.multicast(0, 0x1FF, 1));
        is(8, wide.multicast(0, 0xFF, 1));
    }

    private static void ask() {
        of("Promise 4");
        says("Makes a question.");
        Meshyard yard = yard(2, 1);
        yard.set(1, 0, 40);
        yard.ask(0, 1, 0, false, 0);
        is('q', yard.kind(0));
        is('s', yard.state(0));
        is(1, yard.packets());
        yard.beats(3);
        is(1, yard.packets());
        yard.beats(1);
        is('d', yard.state(0));
        is(4, yard.time(0));
        is(2, yard.packets());
        is(40, yard.word(1));

        says("the goal, or the same node");
        Meshyard same = yard(1, 1);
        same.set(0, 3, 9);
        is(0, same.ask(0, 0, 3, true, 1));
        same.beats(3);
        is(3, same.time(0));
        is(10, same.memory(0, 3));
        same.beats(2);
        is(3, same.time(1));
        is(9, same.word(1));

        says("the place of the word, 0 to 7");
        for (int place = 0; place < 8; place++) {
            Meshyard one = yard(2, 1);
            for (int i = 0; i < 8; i++) {
                one.set(1, i, 100 + i);
            }
            is(0, one.ask(0, 1, place, true, 1000));
            one.beats(4);
            is(100 + place, one.word(1));
            for (int i = 0; i < 8; i++) {
                is(100 + i + (i == place ? 1000 : 0), one.memory(1, i));
            }
        }
        refuses(OFF_RANGE, yard, () -> yard.ask(0, 1, -1, false, 0));
        refuses(OFF_RANGE, yard, () -> yard.ask(0, 1, 8, false, 0));

        says("what is added, of no meaning otherwise");
        for (int more : new int[] {0, 1, -1, MIN, MAX}) {
            Meshyard read = yard(2, 1);
            read.set(1, 7, 5);
            is(0, read.ask(0, 1, 7, false, more));
            read.beats(4);
            is(5, read.memory(1, 7));
            is(5, read.word(1));
            Meshyard added = yard(2, 1);
            added.set(1, 7, 5);
            is(0, added.ask(0, 1, 7, true, more));
            added.beats(4);
            is(5 + more, added.memory(1, 7));
            is(5, added.word(1));
        }
        Meshyard round = yard(2, 1);
        round.set(1, 7, MAX);
        round.ask(0, 1, 7, true, 1);
        round.beats(4);
        is(MIN, round.memory(1, 7));
        round.ask(0, 1, 7, true, -1);
        round.beats(4);
        is(MAX, round.memory(1, 7));

        says("Returns its number.");
        is(2, yard.ask(1, 1, 0, false, 0));
        is(198, filled(198).ask(0, 1, 0, false, 0));
    }

    private static void askRefused() {
        says("Throws `IndexOutOfBoundsException` if there is no such node, for either");
        Meshyard yard = new Meshyard();
        is(0, yard.ask(0, 15, 0, false, 0));
        is(1, yard.ask(15, 0, 0, false, 0));
        for (int node : NO_NODES) {
            refuses(NO_SUCH, yard, () -> yard.ask(node, 0, 0, false, 0));
            refuses(NO_SUCH, yard, () -> yard.ask(0, node, 0, false, 0));
        }
        Meshyard busy = busy();
        refuses(NO_SUCH, busy, () -> busy.ask(6, 0, 0, true, 1));
        refuses(NO_SUCH, busy, () -> busy.ask(0, 6, 0, true, 1));

        says("Throws `IllegalArgumentException` if a number is out of range");
        for (int place : new int[] {-1, 8, 16, MIN, MAX}) {
            refuses(OFF_RANGE, yard, () -> yard.ask(0, 1, place, false, 0));
            refuses(OFF_RANGE, busy, () -> busy.ask(0, 1, place, true, 1));
        }

        says("Throws `IllegalStateException` if there is no room for it and its answer");
        Meshyard one = filled(199);
        refuses(NOT_NOW, one, () -> one.ask(0, 1, 0, false, 0));
        is(199, one.send(0, 1, 1, 1));
        refuses(NOT_NOW, one, () -> one.ask(0, 1, 0, false, 0));
        Meshyard three = filled(197);
        is(197, three.ask(0, 1, 0, false, 0));
        refuses(NOT_NOW, three, () -> three.ask(0, 1, 0, false, 0));
        is(198, three.send(0, 1, 0, 1));
        Meshyard two = filled(196);
        is(196, two.ask(0, 1, 0, false, 0));
        is(197, two.ask(0, 1, 0, false, 0));
        refuses(NOT_NOW, two, () -> two.ask(0, 1, 0, false, 0));
        refuses(NOT_NOW, two, () -> two.send(0, 1, 0, 1));
    }

    private static void answer() {
        of("Promise 5");
        says("Returns the answer to a question.");
        Meshyard yard = yard(2, 1);
        yard.ask(0, 1, 0, false, 0);
        yard.ask(1, 0, 0, false, 0);
        yard.ask(0, 0, 0, false, 0);
        yard.beats(40);
        for (int packet = 0; packet < 3; packet++) {
            is('a', yard.kind(yard.answer(packet)));
        }
        is(12, yard.answer(0) + yard.answer(1) + yard.answer(2));

        says("Returns its number.");
        Meshyard last = filled(198);
        last.ask(1, 0, 0, false, 0);
        last.beats(4);
        is(199, last.answer(198));
        Meshyard first = yard(1, 1);
        first.ask(0, 0, 0, false, 0);
        first.beats(3);
        is(1, first.answer(0));

        says("Throws `IndexOutOfBoundsException` if there is no such packet");
        noSuchPacket(number -> () -> yard.answer(number), yard);
        noSuchPacket(number -> () -> last.answer(number), last);

        says("Throws `IllegalArgumentException` if it is no question");
        yard.send(0, 1, 1, 1);
        refuses(OFF_RANGE, yard, () -> yard.answer(3));
        refuses(OFF_RANGE, yard, () -> yard.answer(6));
        yard.beats(10);
        is('d', yard.state(6));
        refuses(OFF_RANGE, yard, () -> yard.answer(6));

        says("Throws `NoSuchElementException` if it was not delivered");
        Meshyard asked = yard(2, 1);
        asked.ask(0, 1, 0, false, 0);
        for (int beat = 0; beat < 4; beat++) {
            refuses(NONE, asked, () -> asked.answer(0));
            asked.beats(1);
        }
        is(1, asked.answer(0));
        asked.fail(0, 'e', true);
        asked.ask(0, 1, 0, false, 0);
        asked.beats(4);
        is('l', asked.state(2));
        refuses(NONE, asked, () -> asked.answer(2));
        is('l', asked.state(1));
        is(1, asked.answer(0));
    }

    private interface Look {
        java.util.function.Supplier<Object> at(int number);
    }

    /** The numbers on each side of those that were made. */
    private static void noSuchPacket(Look look, Meshyard yard) {
        for (int number : new int[] {-1, yard.packets(), 200, MIN, MAX}) {
            refuses(NO_SUCH, yard, look.at(number));
        }
        Meshyard none = new Meshyard();
        refuses(NO_SUCH, none, () -> none.kind(0));
    }

    private static void kind() {
        of("Promise 6");
        says("Returns the kind of a packet.");
        Meshyard yard = yard(1, 1);
        yard.send(0, 0, 1, 1);
        is('m', yard.kind(0));
        yard.beats(3);
        yard.receive(0, 0);
        is('m', yard.kind(0));
        says("Returns 'm', 'q' or 'a'.");
        yard.ask(0, 0, 0, false, 0);
        yard.multicast(0, 1, 0);
        is('q', yard.kind(1));
        is('m', yard.kind(2));
        yard.beats(9);
        is('q', yard.kind(1));
        is('a', yard.kind(3));
        says("Throws `IndexOutOfBoundsException` if there is no such packet");
        noSuchPacket(number -> () -> yard.kind(number), yard);
        Meshyard full = filled(200);
        is('m', full.kind(199));
        noSuchPacket(number -> () -> full.kind(number), full);
    }

    private static void state() {
        of("Promise 7");
        says("Returns how a packet is.");
        Meshyard yard = yard(2, 1);
        yard.send(0, 1, 1, 4);
        StringBuilder states = new StringBuilder();
        for (int beat = 0; beat < 8; beat++) {
            states.append(yard.state(0));
            yard.beats(1);
        }
        is("swwwwwwd", states.toString());
        says("Returns 's', 'w', 'd', 'r' or 'l'.");
        yard.receive(1, 0);
        is('r', yard.state(0));
        yard.fail(0, 'e', true);
        yard.send(0, 1, 1, 4);
        is('s', yard.state(1));
        yard.beats(1);
        is('w', yard.state(1));
        yard.beats(1);
        is('l', yard.state(1));
        yard.beats(100);
        is('r', yard.state(0));
        is('l', yard.state(1));
        says("Throws `IndexOutOfBoundsException` if there is no such packet");
        noSuchPacket(number -> () -> yard.state(number), yard);
        Meshyard full = filled(200);
        is('s', full.state(199));
        noSuchPacket(number -> () -> full.state(number), full);
    }

    private static void word() {
        of("Promise 8");
        says("Returns the word of a packet, 0 for a question.");
        Meshyard yard = yard(1, 1);
        yard.set(0, 0, MIN);
        yard.set(0, 1, MAX);
        yard.ask(0, 0, 0, true, 5);
        yard.ask(0, 0, 1, false, 5);
        is(0, yard.word(0));
        is(0, yard.word(1));
        yard.beats(20);
        is(0, yard.word(0));
        is(0, yard.word(1));
        says("Returns the word.");
        is(MIN, yard.word(2));
        is(MAX, yard.word(3));
        for (int word : new int[] {0, 1, -1, MIN, MAX}) {
            is(word, yard.word(yard.send(0, 0, word, 1)));
        }
        says("Throws `IndexOutOfBoundsException` if there is no such packet");
        noSuchPacket(number -> () -> yard.word(number), yard);
    }

    private static void head() {
        of("Promise 9");
        says("Returns the node at whose router the head of a packet is.");
        Meshyard yard = new Meshyard();
        yard.send(0, 15, 1, 4);
        is("01237bf", path(yard, 0, 7));
        says("Returns the node.");
        Meshyard itself = yard(1, 1);
        itself.send(0, 0, 1, 1);
        itself.beats(1);
        is(0, itself.head(0));
        is(15, yard.head(0));
        says("Throws `IndexOutOfBoundsException` if there is no such packet");
        noSuchPacket(number -> () -> yard.head(number), yard);
        says("Throws `NoSuchElementException` if it is at no router");
        yard.beats(1);
        is('w', yard.state(0));
        refuses(NONE, yard, () -> yard.head(0));
        yard.beats(20);
        is('d', yard.state(0));
        refuses(NONE, yard, () -> yard.head(0));
        yard.receive(15, 0);
        refuses(NONE, yard, () -> yard.head(0));
        yard.send(0, 1, 1, 1);
        refuses(NONE, yard, () -> yard.head(1));
        yard.fail(0, 'e', true);
        yard.beats(1);
        is(0, yard.head(1));
        yard.beats(1);
        is('l', yard.state(1));
        refuses(NONE, yard, () -> yard.head(1));
    }

    private static void pieces() {
        of("Promise 10");
        says("Returns how many pieces of a packet are in rows.");
        Meshyard yard = yard(3, 1);
        yard.places(4);
        yard.send(0, 2, 1, 4);
        for (int pieces = 0; pieces <= 5; pieces++) {
            is(pieces, yard.pieces(0));
            beatsAsleep(yard, 2, 1);
        }
        is(4, yard.row(1, 'w', 0));
        is(1, yard.row(0, 'c', 0));
        says("Returns their number.");
        is(5, yard.pieces(0));
        yard.beats(1);
        is(5, yard.pieces(0));
        for (int pieces = 4; pieces >= 0; pieces--) {
            yard.beats(1);
            is(pieces, yard.pieces(0));
        }
        is('d', yard.state(0));
        yard.fail(1, 'e', true);
        yard.send(0, 2, 1, 4);
        yard.beats(2);
        is(2, yard.pieces(1));
        yard.beats(1);
        is(0, yard.pieces(1));
        says("Throws `IndexOutOfBoundsException` if there is no such packet");
        noSuchPacket(number -> () -> yard.pieces(number), yard);
    }

    private static void time() {
        of("Promise 11");
        says("less those that had passed as it was made, the one that goes on not counted.");
        for (int before : new int[] {0, 1, 100}) {
            Meshyard yard = yard(1, 1);
            if (before > 0) {
                yard.beats(before);
            }
            yard.send(0, 0, 1, 1);
            yard.beats(3);
            is(3, yard.time(0));
            yard.beats(100);
            is(3, yard.time(0));
        }
        Meshyard sent = yard(1, 1);
        load(sent, 0, "p6 d0 h");
        sent.start(0);
        sent.beats(4);
        // made in the second beat, as one had passed, and its tail taken in the fourth one
        is(3, sent.time(0));
        Meshyard asked = yard(1, 1);
        asked.ask(0, 0, 0, false, 0);
        asked.beats(5);
        // the answer is made in the third beat, as two had passed, and its tail taken in the fifth one
        is(3, asked.time(1));
        says("Returns their number.");
        Meshyard far = new Meshyard();
        far.sleep(0);
        far.send(15, 0, 1, 4);
        far.beats(12);
        refuses(NONE, far, () -> far.time(0));
        far.beats(1);
        // 2 + 4 + 6, and one as node 0 is woken
        is(13, far.time(0));
        says("Throws `IndexOutOfBoundsException` if there is no such packet");
        noSuchPacket(number -> () -> far.time(number), far);
        says("Throws `NoSuchElementException` if it was not delivered");
        Meshyard yard = yard(2, 1);
        yard.send(0, 1, 1, 1);
        for (int beat = 0; beat < 4; beat++) {
            refuses(NONE, yard, () -> yard.time(0));
            yard.beats(1);
        }
        is(4, yard.time(0));
        yard.receive(1, 0);
        is(4, yard.time(0));
        yard.fail(0, 'e', true);
        yard.send(0, 1, 1, 1);
        yard.beats(9);
        is('l', yard.state(1));
        refuses(NONE, yard, () -> yard.time(1));
    }

    private static void packets() {
        of("Promise 12");
        says("Returns how many packets were made.");
        Meshyard yard = yard(1, 1);
        is(0, yard.packets());
        yard.ask(0, 0, 0, false, 0);
        is(1, yard.packets());
        yard.beats(2);
        is(1, yard.packets());
        yard.beats(1);
        is(2, yard.packets());
        refuses(OFF_RANGE, yard, () -> yard.send(0, 0, 0, 0));
        is(2, yard.packets());
        says("Returns their number.");
        Meshyard full = filled(199);
        is(199, full.packets());
        full.send(0, 1, 0, 1);
        is(200, full.packets());
        refuses(NOT_NOW, full, () -> full.send(0, 1, 0, 1));
        is(200, full.packets());
        full.net(1, 1);
        is(0, full.packets());
    }

    private static void lying() {
        of("Promise 13");
        says("Returns how many messages of a source lie at a node.");
        Meshyard yard = new Meshyard();
        yard.send(15, 0, 1, 1);
        yard.ask(15, 0, 0, false, 0);
        yard.beats(8);
        is(0, yard.lying(0, 15));
        yard.beats(1);
        is(1, yard.lying(0, 15));
        is(0, yard.lying(15, 0));
        yard.beats(60);
        is('d', yard.state(2));
        is(1, yard.lying(0, 15));
        is(0, yard.lying(15, 0));
        yard.receive(0, 15);
        is(0, yard.lying(0, 15));
        says("Returns their number.");
        Meshyard full = yard(1, 1);
        for (int i = 0; i < 200; i++) {
            full.send(0, 0, i, 1);
        }
        is(0, full.lying(0, 0));
        for (int i = 0; i < 4; i++) {
            full.beats(100);
        }
        is(199, full.lying(0, 0));
        full.beats(1);
        is(200, full.lying(0, 0));
        is(0, full.receive(0, 0));
        is(199, full.lying(0, 0));
        says("Throws `IndexOutOfBoundsException` if there is no such node, for either");
        for (int node : NO_NODES) {
            refuses(NO_SUCH, yard, () -> yard.lying(node, 0));
            refuses(NO_SUCH, yard, () -> yard.lying(0, node));
        }
        refuses(NO_SUCH, full, () -> full.lying(1, 0));
        refuses(NO_SUCH, full, () -> full.lying(0, 1));
        is(0, yard.lying(15, 15));
    }

    private static void receive() {
        of("Promise 14");
        says("Receives a message of a source at a node.");
        Meshyard yard = new Meshyard();
        yard.send(15, 0, 1, 1);
        yard.send(15, 0, 2, 1);
        yard.beats(30);
        is('d', yard.state(0));
        yard.receive(0, 15);
        is('r', yard.state(0));
        is('d', yard.state(1));
        says("Returns its number.");
        is(1, yard.receive(0, 15));
        Meshyard last = filled(199);
        last.send(1, 1, 5, 1);
        last.beats(4);
        is(199, last.receive(1, 1));
        says("Throws `IndexOutOfBoundsException` if there is no such node, for either");
        for (int node : NO_NODES) {
            refuses(NO_SUCH, yard, () -> yard.receive(node, 0));
            refuses(NO_SUCH, yard, () -> yard.receive(0, node));
        }
        refuses(NO_SUCH, last, () -> last.receive(2, 0));
        refuses(NO_SUCH, last, () -> last.receive(1, 2));
        says("Throws `NoSuchElementException` if there is none");
        refuses(NONE, yard, () -> yard.receive(0, 15));
        refuses(NONE, yard, () -> yard.receive(15, 0));
        refuses(NONE, yard, () -> yard.receive(15, 15));
        yard.send(0, 1, 3, 1);
        for (int beat = 0; beat < 4; beat++) {
            refuses(NONE, yard, () -> yard.receive(1, 0));
            yard.beats(1);
        }
        is(2, yard.receive(1, 0));
        yard.fail(0, 'e', true);
        yard.send(0, 1, 3, 1);
        yard.beats(9);
        is('l', yard.state(3));
        refuses(NONE, yard, () -> yard.receive(1, 0));
        yard.ask(5, 6, 0, false, 0);
        yard.beats(20);
        is('d', yard.state(5));
        refuses(NONE, yard, () -> yard.receive(6, 5));
        refuses(NONE, yard, () -> yard.receive(5, 6));
    }
}

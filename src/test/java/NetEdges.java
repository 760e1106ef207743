/** The edges that the promises 15 to 27 name. */
abstract class NetEdges extends Edges {
    private static final char[] SIDES = {'e', 'w', 's', 'n', 'c'};
    private static final char[] NO_SIDES = {'E', 'W', 'S', 'N', 'C', 'x', 0, ' ', 'd', 'f', 255, (char) ('e' + 256), 65535};

    static void run() {
        net();
        netMakesAllAnew();
        netRefused();
        beats();
        beat();
        way();
        places();
        row();
        owner();
        fail();
        sleep();
        isAwake();
        leads();
        hasRing();
        direction();
    }

    private static void net() {
        of("Promise 15");
        says("the width, 1 to 4");
        for (int width = 1; width <= 4; width++) {
            Meshyard wide = yard(width, 1);
            int nodes = width;
            is('-', wide.core(nodes - 1));
            refuses(NO_SUCH, wide, () -> wide.core(nodes));
        }
        Meshyard yard = busy();
        refuses(OFF_RANGE, yard, () -> yard.net(0, 1));
        refuses(OFF_RANGE, yard, () -> yard.net(5, 1));

        says("the height, 1 to 4");
        for (int height = 1; height <= 4; height++) {
            Meshyard high = yard(1, height);
            int nodes = height;
            is('-', high.core(nodes - 1));
            refuses(NO_SUCH, high, () -> high.core(nodes));
        }
        refuses(OFF_RANGE, yard, () -> yard.net(1, 0));
        refuses(OFF_RANGE, yard, () -> yard.net(1, 5));

        says("Returns how many nodes it has.");
        for (int width = 1; width <= 4; width++) {
            for (int height = 1; height <= 4; height++) {
                Meshyard sized = new Meshyard();
                int nodes = width * height;
                is(nodes, sized.net(width, height));
                is('-', sized.core(nodes - 1));
                refuses(NO_SUCH, sized, () -> sized.core(nodes));
            }
        }
    }

    private static void netMakesAllAnew() {
        says("Makes the chip anew, in place of all that there was; the way, tasks and traffic too.");
        int[][] sizes = {{3, 2}, {4, 4}, {1, 1}, {2, 3}};
        for (int[] size : sizes) {
            Meshyard yard = busy();
            int nodes = yard.net(size[0], size[1]);
            Meshyard first = yard(size[0], size[1]);
            is('x', yard.way('x'));
            is(2, yard.places(2));
            is(0, yard.packets());
            is(0, yard.beat());
            is(first.checksum(), yard.checksum());
            is(first.leads(), yard.leads());
            for (int node = 0; node < nodes; node++) {
                int of = node;
                yes(yard.isAwake(node));
                is('-', yard.core(node));
                refuses(NONE, yard, () -> yard.top(of));
                refuses(NONE, yard, () -> yard.at(of));
                refuses(CANNOT, yard, () -> yard.start(of));
                is(0, yard.clear(node));
                for (int side = 0; side < 5; side++) {
                    is(0, yard.row(node, SIDES[side], 0) + yard.row(node, SIDES[side], 1));
                    is(-1, side == 4 ? -1 : yard.owner(node, SIDES[side], 0));
                }
            }
            refuses(NO_SUCH, yard, () -> yard.nodeOf(0));
            is(0, yard.task(0));
            is(1, yard.task(nodes - 1));
            is(0, yard.traffic(0, 1, 0));
            refuses(NONE, yard, () -> yard.lostShare());
            refuses(NONE, yard, () -> yard.meanTime());
            is(0, yard.send(0, 0, 1, 1));
            yard.beats(3);
            is(3, yard.time(0));
        }
        for (int beats = 1; beats <= 20; beats++) {
            Meshyard worn = worn(beats);
            worn.net(3, 2);
            is(runOf(yard(3, 2)), runOf(worn));
        }
        Meshyard asked = yard(2, 1);
        asked.ask(0, 1, 0, false, 0);
        asked.net(1, 1);
        for (int number = 0; number < 200; number++) {
            is(number, asked.send(0, 0, 1, 1));
        }
        // of each row, at each output, the first turn is that of 'e' again
        Meshyard turned = yard(3, 1);
        turned.send(2, 1, 1, 1);
        turned.beats(9);
        turned.net(3, 1);
        turned.send(2, 1, 1, 1);
        turned.send(0, 1, 1, 1);
        turned.beats(9);
        is(5, turned.time(0));
        is(6, turned.time(1));
    }

    /** A chip on which everything was used for so many beats. */
    private static Meshyard worn(int beats) {
        Meshyard yard = yard(3, 2);
        for (int node = 0; node < 6; node++) {
            yard.multicast(node, 63, node);
            yard.ask(node, 5 - node, node, true, 1);
            load(yard, node, "p1 p2 r0 b h");
            yard.start(node);
        }
        yard.beats(beats);
        for (int node = 0; node < 6; node++) {
            for (int place = 0; place < 8; place++) {
                yard.set(node, place, 9);
            }
            yard.fail(node, node % 3 < 2 ? 'e' : 'w', true);
            yard.fail(node, node < 3 ? 's' : 'n', true);
        }
        yard.way('t');
        yard.places(1);
        return yard;
    }

    /** What a chip does in a run tells whether anything was left on it. */
    private static String runOf(Meshyard yard) {
        StringBuilder told = new StringBuilder();
        for (int node = 0; node < 6; node++) {
            yard.send(node, 5 - node, node, node % 4 + 1);
            yard.ask(node, (node * 5 + 1) % 6, node, true, node + 1);
            yard.send(node, (node + 1) % 6, 1, 1);
        }
        for (int beat = 0; beat < 30; beat++) {
            told.append(yard.beats(1)).append(yard.checksum()).append(yard.isSound()).append(yard.leads()).append(' ');
            told.append(yard.lying(beat % 6, beat / 6)).append(yard.lostShare());
        }
        for (int packet = 0; packet < yard.packets(); packet++) {
            told.append(yard.state(packet)).append(yard.pieces(packet)).append(' ').append(yard.word(packet));
        }
        for (int node = 0; node < 6; node++) {
            load(yard, node, "p1 r" + (5 - node) + " + b h");
            told.append(yard.start(node));
        }
        yard.beats(40);
        for (int node = 0; node < 6; node++) {
            told.append(yard.core(node)).append(yard.at(node)).append(yard.top(node)).append(yard.isAwake(node));
        }
        return told.append(yard.meanTime()).append(yard.checksum()).toString();
    }

    private static void netRefused() {
        says("Throws `IllegalArgumentException` if a number is out of range");
        Meshyard yard = busy();
        for (int off : new int[] {0, -1, MIN, 5, 16, MAX}) {
            refuses(OFF_RANGE, yard, () -> yard.net(off, 1));
            refuses(OFF_RANGE, yard, () -> yard.net(4, off));
            refuses(OFF_RANGE, yard, () -> yard.net(off, off));
        }
        refuses(OFF_RANGE, yard, () -> yard.net(-2, -2));
        is(1, yard.net(1, 1));
        is(16, yard.net(4, 4));
    }

    private static void beats() {
        of("Promise 16");
        says("Lets beats pass.");
        Meshyard yard = yard(2, 1);
        yard.send(0, 1, 1, 1);
        yard.beats(3);
        is('w', yard.state(0));
        yard.beats(1);
        is('d', yard.state(0));
        says("how many, 1 to 100");
        yard.beats(1);
        is(5, yard.beat());
        yard.beats(100);
        is(105, yard.beat());
        refuses(OFF_RANGE, yard, () -> yard.beats(0));
        refuses(OFF_RANGE, yard, () -> yard.beats(101));
        says("Returns true if some piece moved in the last one, or was put into a row.");
        no(new Meshyard().beats(1));
        no(new Meshyard().beats(100));
        Meshyard one = yard(2, 1);
        one.send(0, 1, 1, 1);
        yes(one.beats(1));
        yes(one.beats(1));
        yes(one.beats(1));
        yes(one.beats(1));
        no(one.beats(1));
        one.send(0, 1, 1, 1);
        no(one.beats(100));
        one.send(0, 1, 1, 1);
        yes(one.beats(4));
        // only put in: the router ahead sleeps
        one.sleep(1);
        one.send(0, 1, 1, 4);
        yes(one.beats(1));
        one.sleep(1);
        yes(one.beats(1));
        one.sleep(1);
        no(one.beats(1));
        yes(one.beats(1));
        one.beats(20);
        // only moved: all are put in
        one.send(0, 0, 1, 1);
        one.beats(2);
        yes(one.beats(1));
        // only lost
        one.fail(0, 'e', true);
        one.send(0, 1, 1, 1);
        one.beats(1);
        no(one.beats(1));
        is('l', one.state(5));
        // only woken
        one.sleep(1);
        one.send(1, 1, 1, 1);
        no(one.beats(1));
        yes(one.beats(1));
        says("Throws `IllegalArgumentException` if a number is out of range");
        Meshyard busy = busy();
        for (int many : new int[] {0, -1, MIN, 101, MAX}) {
            refuses(OFF_RANGE, busy, () -> busy.beats(many));
        }
    }

    private static void beat() {
        of("Promise 17");
        says("Returns how many beats passed.");
        Meshyard yard = new Meshyard();
        is(0, yard.beat());
        yard.beats(1);
        is(1, yard.beat());
        says("Returns their number.");
        int due = 1;
        for (int many = 1; many <= 100; many++) {
            yard.beats(many);
            due += many;
            is(due, yard.beat());
        }
        refuses(OFF_RANGE, yard, () -> yard.beats(101));
        is(5051, yard.beat());
    }

    private static void way() {
        of("Promise 18");
        says("Sets the way of all.");
        Meshyard yard = yard(2, 2);
        is('e', yard.direction(0, 3));
        yard.way('y');
        is('s', yard.direction(0, 3));
        is('n', yard.direction(3, 0));
        yard.way('t');
        is('e', yard.direction(0, 3));
        is('w', yard.direction(3, 0));
        is('e', yard.direction(2, 1));
        yard.way('x');
        says("'x', 'y' or 't'");
        for (char way : new char[] {'x', 'y', 't'}) {
            yard.way(way);
            is(way, yard.way('x'));
        }
        says("Returns the one before.");
        is('x', new Meshyard().way('t'));
        is('x', yard.way('x'));
        is('x', yard.way('y'));
        is('y', yard.way('t'));
        is('t', yard.way('x'));
        says("Throws `IllegalArgumentException` if there is no such way");
        Meshyard busy = busy();
        for (char way : new char[] {'w', 'z', 'X', 'Y', 'T', 's', 'u', 0, ' ', 'x' + 256, 65535}) {
            refuses(OFF_RANGE, busy, () -> busy.way(way));
        }
        is('t', busy.way('x'));
    }

    private static void places() {
        of("Promise 19");
        says("Sets the places of all rows; those with more pieces keep them.");
        Meshyard yard = yard(2, 1);
        yard.places(4);
        yard.send(0, 1, 1, 4);
        beatsAsleep(yard, 1, 6);
        is(4, yard.row(0, 'c', 0));
        yard.places(1);
        is(4, yard.row(0, 'c', 0));
        is(4, yard.pieces(0));
        // nothing comes in until it has fewer than that
        int[] due = {3, 3, 2, 2, 1, 1, 1};
        for (int pieces : due) {
            yard.beats(1);
            is(pieces, yard.row(0, 'c', 0));
        }
        yard.beats(9);
        is('d', yard.state(0));
        says("how many places each row has, 1 to 4");
        for (int places = 1; places <= 4; places++) {
            Meshyard line = yard(3, 1);
            line.places(places);
            line.send(0, 2, 1, 4);
            line.send(0, 2, 1, 4);
            beatsAsleep(line, 2, 12);
            is(places, line.row(1, 'w', 0));
            is(places, line.row(0, 'c', 0));
        }
        refuses(OFF_RANGE, yard, () -> yard.places(0));
        refuses(OFF_RANGE, yard, () -> yard.places(5));
        says("Returns the number before.");
        is(2, new Meshyard().places(4));
        is(1, yard.places(1));
        is(1, yard.places(4));
        is(4, yard.places(3));
        is(3, yard.places(2));
        says("Throws `IllegalArgumentException` if a number is out of range");
        Meshyard busy = busy();
        for (int many : new int[] {0, -1, MIN, 5, MAX}) {
            refuses(OFF_RANGE, busy, () -> busy.places(many));
        }
        is(3, busy.places(1));
    }

    private static void row() {
        of("Promise 20");
        says("Returns how many pieces a row has.");
        Meshyard yard = yard(3, 3);
        for (int node = 0; node < 9; node++) {
            for (char side : SIDES) {
                is(0, yard.row(node, side, 0));
                is(0, yard.row(node, side, 1));
            }
        }
        yard.send(5, 4, 1, 1);
        yard.send(1, 4, 1, 1);
        yard.send(7, 4, 1, 1);
        yard.beats(2);
        is(1, yard.row(4, 'e', 0));
        is(1, yard.row(4, 'n', 0));
        is(1, yard.row(4, 's', 0));
        is(0, yard.row(4, 'w', 0));
        is(0, yard.row(4, 'c', 0));
        yard.beats(20);
        says("the channel, 0 or 1");
        yard.ask(4, 3, 0, false, 0);
        yard.beats(1);
        is(1, yard.row(4, 'c', 0));
        is(0, yard.row(4, 'c', 1));
        yard.beats(3);
        is(0, yard.row(3, 'c', 0));
        is(1, yard.row(3, 'c', 1));
        yard.beats(1);
        is(0, yard.row(4, 'w', 0));
        is(1, yard.row(4, 'w', 1));
        refuses(OFF_RANGE, yard, () -> yard.row(4, 'w', -1));
        refuses(OFF_RANGE, yard, () -> yard.row(4, 'w', 2));
        says("Returns their number.");
        Meshyard full = yard(2, 1);
        full.places(4);
        full.send(0, 1, 1, 4);
        for (int pieces : new int[] {0, 1, 2, 3, 4, 4}) {
            is(pieces, full.row(0, 'c', 0));
            beatsAsleep(full, 1, 1);
        }
        says("Throws `IndexOutOfBoundsException` if there is no such node");
        is(0, yard.row(0, 'c', 0));
        is(0, yard.row(8, 'c', 1));
        for (int node : new int[] {-1, 9, MIN, MAX}) {
            refuses(NO_SUCH, yard, () -> yard.row(node, 'c', 0));
        }
        says("Throws `IllegalArgumentException` if there is no such row or channel");
        for (char side : NO_SIDES) {
            refuses(OFF_RANGE, yard, () -> yard.row(4, side, 0));
        }
        for (int channel : new int[] {-1, 2, MIN, MAX}) {
            for (char side : SIDES) {
                refuses(OFF_RANGE, yard, () -> yard.row(4, side, channel));
            }
        }
    }

    private static void owner() {
        of("Promise 21");
        says("Returns to which packet a row belongs.");
        Meshyard yard = yard(3, 3);
        for (int node = 0; node < 9; node++) {
            for (int side = 0; side < 4; side++) {
                is(-1, yard.owner(node, SIDES[side], 0));
                is(-1, yard.owner(node, SIDES[side], 1));
            }
        }
        yard.send(5, 4, 1, 1);
        yard.send(1, 4, 1, 1);
        yard.send(7, 4, 1, 1);
        yard.send(3, 4, 1, 1);
        yard.beats(2);
        is(0, yard.owner(4, 'e', 0));
        is(1, yard.owner(4, 'n', 0));
        is(2, yard.owner(4, 's', 0));
        is(3, yard.owner(4, 'w', 0));
        yard.beats(20);
        is(-1, yard.owner(4, 'e', 0));
        says("the channel, 0 or 1");
        yard.ask(4, 3, 0, false, 0);
        yard.beats(2);
        is(4, yard.owner(3, 'e', 0));
        is(-1, yard.owner(3, 'e', 1));
        yard.beats(3);
        is(-1, yard.owner(4, 'w', 0));
        is(5, yard.owner(4, 'w', 1));
        refuses(OFF_RANGE, yard, () -> yard.owner(4, 'w', -1));
        refuses(OFF_RANGE, yard, () -> yard.owner(4, 'w', 2));
        says("Returns the number, -1 for none.");
        Meshyard last = filled(198);
        last.ask(1, 0, 0, false, 0);
        last.beats(2);
        is(198, last.owner(0, 'e', 0));
        last.beats(2);
        is(-1, last.owner(0, 'e', 0));
        last.beats(1);
        is(199, last.owner(1, 'w', 1));
        says("Throws `IndexOutOfBoundsException` if there is no such node");
        is(-1, yard.owner(0, 'e', 0));
        is(-1, yard.owner(8, 'n', 1));
        for (int node : new int[] {-1, 9, MIN, MAX}) {
            refuses(NO_SUCH, yard, () -> yard.owner(node, 'e', 0));
        }
        says("Throws `IllegalArgumentException` if there is no such row or channel");
        refuses(OFF_RANGE, yard, () -> yard.owner(4, 'c', 0));
        refuses(OFF_RANGE, yard, () -> yard.owner(4, 'c', 1));
        for (char side : NO_SIDES) {
            refuses(OFF_RANGE, yard, () -> yard.owner(4, side, 0));
        }
        for (int channel : new int[] {-1, 2, MIN, MAX}) {
            for (int side = 0; side < 4; side++) {
                char from = SIDES[side];
                refuses(OFF_RANGE, yard, () -> yard.owner(4, from, channel));
            }
        }
    }

    private static void fail() {
        of("Promise 22");
        says("Tells whether a link failed.");
        Meshyard yard = new Meshyard();
        no(yard.fail(0, 'e', false));
        no(yard.fail(0, 'e', true));
        yes(yard.fail(0, 'e', true));
        yes(yard.fail(1, 'w', false));
        no(yard.fail(0, 'e', false));
        no(yard.fail(0, 's', true));
        yes(yard.fail(4, 'n', true));
        no(yard.fail(0, 'e', false));
        says("Returns whether it had.");
        no(yard.fail(15, 'n', true));
        yes(yard.fail(11, 's', false));
        no(yard.fail(15, 'n', false));
        says("Throws `IndexOutOfBoundsException` if there is no such node");
        Meshyard busy = busy();
        for (int node : new int[] {-1, 6, 16, MIN, MAX}) {
            refuses(NO_SUCH, busy, () -> busy.fail(node, 'e', true));
        }
        says("Throws `IllegalArgumentException` if there is no such direction");
        refuses(OFF_RANGE, busy, () -> busy.fail(4, 'c', true));
        for (char direction : NO_SIDES) {
            refuses(OFF_RANGE, busy, () -> busy.fail(4, direction, true));
        }
        says("Throws `UnsupportedOperationException` if there is no such link");
        for (int width = 1; width <= 4; width++) {
            for (int height = 1; height <= 4; height++) {
                linksOf(yard(width, height), width, height);
            }
        }
    }

    private static void linksOf(Meshyard yard, int width, int height) {
        for (int node = 0; node < width * height; node++) {
            int x = node % width;
            int y = node / width;
            linkOf(yard, node, 'e', x < width - 1);
            linkOf(yard, node, 'w', x > 0);
            linkOf(yard, node, 's', y < height - 1);
            linkOf(yard, node, 'n', y > 0);
        }
    }

    private static void linkOf(Meshyard yard, int node, char direction, boolean isThere) {
        if (isThere) {
            no(yard.fail(node, direction, false));
        } else {
            refuses(CANNOT, yard, () -> yard.fail(node, direction, true));
            refuses(CANNOT, yard, () -> yard.fail(node, direction, false));
        }
    }

    private static void sleep() {
        of("Promise 23");
        says("Puts a router to sleep.");
        Meshyard yard = yard(2, 1);
        yard.sleep(1);
        no(yard.isAwake(1));
        yes(yard.isAwake(0));
        says("Returns true if it was awake.");
        yes(yard.sleep(0));
        no(yard.sleep(0));
        no(yard.sleep(1));
        yard.send(0, 0, 1, 1);
        yard.beats(1);
        yes(yard.sleep(0));
        says("Throws `IndexOutOfBoundsException` if there is no such node");
        Meshyard wide = new Meshyard();
        yes(wide.sleep(0));
        yes(wide.sleep(15));
        for (int node : new int[] {-1, 16, MIN, MAX}) {
            refuses(NO_SUCH, wide, () -> wide.sleep(node));
        }
        refuses(NO_SUCH, yard, () -> yard.sleep(2));
        says("Throws `UnsupportedOperationException` if it cannot sleep");
        Meshyard full = yard(2, 1);
        full.send(0, 1, 1, 1);
        yes(full.sleep(0));
        full.beats(2);
        refuses(CANNOT, full, () -> full.sleep(0));
        full.beats(1);
        refuses(CANNOT, full, () -> full.sleep(1));
        full.beats(1);
        yes(full.sleep(0));
        refuses(CANNOT, full, () -> full.sleep(1));
        full.beats(1);
        yes(full.sleep(1));
        load(full, 1, "h");
        full.start(1);
        refuses(CANNOT, full, () -> full.sleep(1));
        full.beats(1);
        no(full.sleep(1));
    }

    private static void isAwake() {
        of("Promise 24");
        says("Tells whether a router is awake.");
        Meshyard yard = new Meshyard();
        yes(yard.isAwake(0));
        yes(yard.isAwake(15));
        yard.sleep(15);
        no(yard.isAwake(15));
        yard.beats(100);
        no(yard.isAwake(15));
        says("Returns true if so.");
        yard.send(15, 15, 1, 1);
        no(yard.isAwake(15));
        yard.beats(1);
        yes(yard.isAwake(15));
        says("Throws `IndexOutOfBoundsException` if there is no such node");
        for (int node : new int[] {-1, 16, MIN, MAX}) {
            refuses(NO_SUCH, yard, () -> yard.isAwake(node));
        }
        Meshyard busy = busy();
        refuses(NO_SUCH, busy, () -> busy.isAwake(6));
    }

    /** How many pairs there are, counted at the node between both links, of which one, given by its ends, may be gone. */
    private static int pairs(int width, int height, char way, int goneFrom, int goneTo) {
        int sum = 0;
        int[] dx = {1, -1, 0, 0};
        int[] dy = {0, 0, 1, -1};
        for (int node = 0; node < width * height; node++) {
            for (int in = 0; in < 4; in++) {
                for (int out = 0; out < 4; out++) {
                    int from = at(width, height, node % width - dx[in], node / width - dy[in]);
                    int to = at(width, height, node % width + dx[out], node / width + dy[out]);
                    boolean isGone = from == goneFrom && node == goneTo || from == goneTo && node == goneFrom
                        || node == goneFrom && to == goneTo || node == goneTo && to == goneFrom;
                    boolean turns = way == 'x' ? in < 2 && out >= 2 : way == 'y' ? in >= 2 && out < 2
                        : in < 2 && out >= 2 || in >= 2 && out == 0;
                    sum += from >= 0 && to >= 0 && !isGone && (in == out || turns) ? 1 : 0;
                }
            }
        }
        return sum;
    }

    private static int at(int width, int height, int x, int y) {
        return x < 0 || y < 0 || x >= width || y >= height ? -1 : y * width + x;
    }

    private static void leads() {
        of("Promise 25");
        says("Returns how many pairs of links there are of which the one leads to the other.");
        for (int width = 1; width <= 4; width++) {
            for (int height = 1; height <= 4; height++) {
                for (char way : new char[] {'x', 'y', 't'}) {
                    Meshyard yard = yard(width, height);
                    yard.way(way);
                    is(pairs(width, height, way, -9, -9), yard.leads());
                    for (int node = 0; node < width * height; node++) {
                        oneGone(yard, width, height, way, node, 'e', node % width < width - 1 ? node + 1 : -1);
                        oneGone(yard, width, height, way, node, 's', node / width < height - 1 ? node + width : -1);
                    }
                    is(pairs(width, height, way, -9, -9), yard.leads());
                }
            }
        }
        says("Returns their number.");
        is(0, yard(1, 1).leads());
        is(0, yard(2, 1).leads());
        is(0, yard(1, 2).leads());
        is(2, yard(3, 1).leads());
        is(68, new Meshyard().leads());
        Meshyard none = yard(2, 2);
        none.fail(0, 'e', true);
        none.fail(0, 's', true);
        none.fail(3, 'w', true);
        is(0, none.leads());
        none.fail(3, 'n', true);
        is(0, none.leads());
    }

    private static void oneGone(Meshyard yard, int width, int height, char way, int node, char direction, int to) {
        if (to >= 0) {
            yard.fail(node, direction, true);
            is(pairs(width, height, way, node, to), yard.leads());
            no(yard.hasRing());
            yard.fail(node, direction, false);
        }
    }

    private static void hasRing() {
        of("Promise 26");
        says("Tells whether links lead round in a ring.");
        for (char way : new char[] {'x', 'y', 't'}) {
            Meshyard yard = new Meshyard();
            yard.way(way);
            no(yard.hasRing());
        }
        says("Returns true if so.");
        yes(StackEdges.ring(2).hasRing());
        yes(StackEdges.ring(4).hasRing());
        no(yard(1, 1).hasRing());
        Meshyard all = yard(2, 2);
        all.way('t');
        for (int node = 0; node < 4; node++) {
            all.fail(node, node % 2 == 0 ? 'e' : 'w', true);
            all.fail(node, node < 2 ? 's' : 'n', true);
        }
        no(all.hasRing());
        is(0, all.leads());
    }

    private static void direction() {
        of("Promise 27");
        says("Returns where a head of the channel 0 at a node goes by now.");
        Meshyard yard = yard(2, 2);
        yard.way('t');
        is('e', yard.direction(0, 3));
        yard.send(0, 1, 1, 4);
        yard.beats(2);
        is('s', yard.direction(0, 3));
        yard.beats(20);
        yard.ask(1, 0, 0, false, 0);
        yard.beats(5);
        is(2, yard.owner(1, 'w', 1));
        is('e', yard.direction(0, 3));
        says("Returns the direction, 'c' at its goal.");
        for (int node = 0; node < 4; node++) {
            is('c', yard.direction(node, node));
        }
        is('e', yard.direction(0, 1));
        is('w', yard.direction(1, 0));
        is('s', yard.direction(0, 2));
        is('n', yard.direction(2, 0));
        is('c', yard(1, 1).direction(0, 0));
        says("Throws `IndexOutOfBoundsException` if there is no such node, for either");
        Meshyard wide = new Meshyard();
        is('e', wide.direction(0, 15));
        is('w', wide.direction(15, 0));
        for (int node : new int[] {-1, 16, MIN, MAX}) {
            refuses(NO_SUCH, wide, () -> wide.direction(node, 0));
            refuses(NO_SUCH, wide, () -> wide.direction(0, node));
        }
        refuses(NO_SUCH, yard, () -> yard.direction(4, 0));
        refuses(NO_SUCH, yard, () -> yard.direction(0, 4));
    }
}

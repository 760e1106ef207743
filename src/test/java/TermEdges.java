/** The edges that the document's terms name, from the net to the rows: nodes, links, packets, ways and rows. */
abstract class TermEdges extends Edges {
    static void run() {
        calls();
        takenOnce();
        net();
        packets();
        channels();
        states();
        wayX();
        wayY();
        wayT();
        wayTByItsChannel();
        wayOfAll();
        rows();
        rowsBelong();
        rowsInOrder();
    }

    private static void calls() {
        of("What it is");
        says("An object is used for at most 512 calls after it has been made;");
        Meshyard yard = new Meshyard();
        for (int call = 1; call < 511; call++) {
            yard.beats(100);
        }
        is(51000, yard.beat());
        is(0, yard.send(15, 0, 1, 1));
    }

    private static void takenOnce() {
        of("Terms");
        says("A message is taken once;");
        Meshyard yard = yard(2, 1);
        yard.send(1, 0, 5, 1);
        yard.beats(4);
        is(0, yard.receive(0, 1));
        refuses(NONE, yard, () -> yard.receive(0, 1));
        load(yard, 0, "r1 r1 h");
        yard.start(0);
        yard.beats(9);
        is('w', yard.core(0));
        yard.send(1, 0, 6, 1);
        yard.beats(9);
        is(6, yard.top(0));
        is(1, yard.at(0));
        is('w', yard.core(0));
        refuses(NONE, yard, () -> yard.receive(0, 1));

        says("no sleep loses a piece.");
        Meshyard line = yard(4, 1);
        line.send(0, 3, 1, 4);
        line.send(3, 0, 2, 4);
        line.ask(1, 3, 0, true, 7);
        for (int beat = 0; beat < 60; beat++) {
            for (int node = beat % 2; node < 4; node += 2) {
                sleepIfItCan(line, node);
            }
            line.beats(1);
            yes(line.isSound());
        }
        is("dddd", "" + line.state(0) + line.state(1) + line.state(2) + line.state(3));
        is(7, line.memory(3, 0));

        says("Beats pass one by one.");
        Meshyard one = busy();
        Meshyard all = busy();
        for (int beat = 0; beat < 37; beat++) {
            one.beats(1);
        }
        all.beats(37);
        is(Inside.told(one), Inside.told(all));
    }

    private static void sleepIfItCan(Meshyard yard, int node) {
        try {
            yard.sleep(node);
        } catch (UnsupportedOperationException e) {
            yes(yard.isAwake(node));
        }
    }

    private static void net() {
        says("It has a width and a height of 1 to 4, both 4 at first;");
        Meshyard first = new Meshyard();
        Meshyard anew = new Meshyard();
        is(16, anew.net(4, 4));
        is(Inside.told(first), Inside.told(anew));
        is(1, anew.net(1, 1));
        refuses(OFF_RANGE, anew, () -> anew.net(0, 0));
        refuses(OFF_RANGE, anew, () -> anew.net(5, 5));

        says("the node at the place x, y has the number y times the width plus x, and has a core and a router.");
        for (int width = 1; width <= 4; width++) {
            for (int height = 1; height <= 4; height++) {
                Meshyard yard = yard(width, height);
                for (int y = 0; y < height; y++) {
                    for (int x = 0; x < width; x++) {
                        int node = y * width + x;
                        is('-', yard.core(node));
                        yes(yard.isAwake(node));
                        is(0, yard.row(node, 'c', 0));
                        linksOneLink(yard, node, 'e', 'w', x + 1 < width ? node + 1 : -1);
                        linksOneLink(yard, node, 's', 'n', y + 1 < height ? node + width : -1);
                    }
                }
            }
        }

        says("Links go both ways between neighbours.");
        for (int node = 0; node < 16; node++) {
            for (int goal = 0; goal < 16; goal++) {
                int steps = Math.abs(node % 4 - goal % 4) + Math.abs(node / 4 - goal / 4);
                Meshyard yard = new Meshyard();
                yard.send(node, goal, 1, 1);
                yard.beats(3 + steps);
                is(3 + steps, yard.time(0));
            }
        }

        says("Directions are 'e' x more, 'w' x less, 's' y more, 'n' y less.");
        is('e', first.direction(5, 6));
        is('w', first.direction(5, 4));
        is('s', first.direction(5, 9));
        is('n', first.direction(5, 1));
        is('e', first.direction(0, 3));
        is('w', first.direction(15, 12));
        is('s', first.direction(3, 15));
        is('n', first.direction(12, 0));
    }

    private static void linksOneLink(Meshyard yard, int node, char to, char back, int next) {
        if (next >= 0) {
            yard.fail(node, to, true);
            yes(yard.fail(next, back, false));
            no(yard.fail(node, to, false));
        } else {
            refuses(CANNOT, yard, () -> yard.fail(node, to, true));
        }
    }

    private static void packets() {
        says("At most 200 are numbered from 0, as they are made,");
        Meshyard yard = yard(2, 1);
        is(0, yard.send(0, 1, 1, 1));
        is(1, yard.ask(0, 1, 0, false, 0));
        is(2, yard.multicast(0, 3, 1));
        is(4, yard.send(1, 1, 1, 1));
        load(yard, 1, "p9 d0 h");
        yard.start(1);
        yard.beats(2);
        is('m', yard.kind(5));
        yard.beats(20);
        is(6, yard.answer(1));
        for (int number = 7; number < 200; number++) {
            is(number, yard.send(0, 0, number, 1));
        }
        is(200, yard.packets());
        refuses(NOT_NOW, yard, () -> yard.send(0, 0, 1, 1));
        refuses(NOT_NOW, yard, () -> yard.ask(0, 0, 1, false, 0));
        refuses(NOT_NOW, yard, () -> yard.multicast(0, 1, 1));

        says("and pieces: a head, and 1 to 4 bodies, the last of which is its tail;");
        for (int bodies = 1; bodies <= 4; bodies++) {
            Meshyard one = yard(1, 1);
            one.send(0, 0, 1, bodies);
            for (int beat = 0; beat <= bodies; beat++) {
                one.beats(1);
                is('w', one.state(0));
                is(1, one.pieces(0));
            }
            one.beats(1);
            is('d', one.state(0));
            is(0, one.pieces(0));
        }
        refuses(OFF_RANGE, busy(), () -> new Meshyard().send(0, 0, 1, 0));
        refuses(OFF_RANGE, busy(), () -> new Meshyard().send(0, 0, 1, 5));

        says("questions and answers have 1 body.");
        Meshyard asked = yard(1, 1);
        asked.ask(0, 0, 0, false, 0);
        asked.beats(2);
        is('w', asked.state(0));
        asked.beats(1);
        is('d', asked.state(0));
        asked.beats(1);
        is('w', asked.state(1));
        asked.beats(1);
        is('d', asked.state(1));
    }

    private static void channels() {
        says("Messages and questions go by the channel 0, answers by the channel 1.");
        Meshyard yard = yard(3, 1);
        yard.send(0, 2, 1, 1);
        yard.beats(1);
        is("10", "" + yard.row(0, 'c', 0) + yard.row(0, 'c', 1));
        yard.beats(1);
        is("10", "" + yard.row(1, 'w', 0) + yard.row(1, 'w', 1));
        yard.beats(9);
        yard.ask(0, 2, 0, false, 0);
        yard.beats(1);
        is("10", "" + yard.row(0, 'c', 0) + yard.row(0, 'c', 1));
        yard.beats(1);
        is("10", "" + yard.row(1, 'w', 0) + yard.row(1, 'w', 1));
        yard.beats(3);
        is("01", "" + yard.row(2, 'c', 0) + yard.row(2, 'c', 1));
        yard.beats(1);
        is("01", "" + yard.row(1, 'e', 0) + yard.row(1, 'e', 1));
    }

    private static void states() {
        says("A packet waits at its source 's', is on the way 'w' from when its head is put into a row,");
        Meshyard yard = yard(2, 1);
        yard.sleep(0);
        yard.send(0, 1, 1, 4);
        is('s', yard.state(0));
        yard.beats(1);
        is('s', yard.state(0));
        yard.beats(1);
        is(1, yard.row(0, 'c', 0));
        is('w', yard.state(0));
        yard.beats(5);
        is(1, yard.pieces(0));
        is('w', yard.state(0));
        says("is delivered 'd', received 'r', or lost 'l'.");
        yard.beats(1);
        is('d', yard.state(0));
        yard.beats(100);
        is('d', yard.state(0));
        yard.receive(1, 0);
        is('r', yard.state(0));
        yard.send(1, 0, 1, 1);
        yard.beats(1);
        yard.fail(1, 'w', true);
        is('w', yard.state(1));
        yard.beats(1);
        is('l', yard.state(1));
    }

    // Ways

    private static char along(int from, int to, char less, char more) {
        return to > from ? more : less;
    }

    private static void wayX() {
        says("By the way 'x' a packet goes along x until it is there, then along y;");
        Meshyard yard = new Meshyard();
        for (int node = 0; node < 16; node++) {
            for (int goal = 0; goal < 16; goal++) {
                char due = node % 4 != goal % 4 ? along(node % 4, goal % 4, 'w', 'e')
                    : node / 4 != goal / 4 ? along(node / 4, goal / 4, 'n', 's') : 'c';
                is(due, yard.direction(node, goal));
            }
        }
        Meshyard gone = new Meshyard();
        is("fedc840", path(gone, gone.send(15, 0, 1, 1), 7));
        Meshyard failed = yard(2, 2);
        failed.fail(0, 'e', true);
        is('e', failed.direction(0, 3));
    }

    private static void wayY() {
        says("by 'y' along y first;");
        Meshyard yard = new Meshyard();
        yard.way('y');
        for (int node = 0; node < 16; node++) {
            for (int goal = 0; goal < 16; goal++) {
                char due = node / 4 != goal / 4 ? along(node / 4, goal / 4, 'n', 's')
                    : node % 4 != goal % 4 ? along(node % 4, goal % 4, 'w', 'e') : 'c';
                is(due, yard.direction(node, goal));
            }
        }
        is("fb73210", path(yard, yard.send(15, 0, 1, 1), 7));
        Meshyard failed = yard(2, 2);
        failed.way('y');
        failed.fail(0, 's', true);
        is('s', failed.direction(0, 3));
    }

    private static void wayT() {
        says("by 't', as long as its goal is to the west, it goes west,");
        Meshyard yard = new Meshyard();
        yard.way('t');
        for (int node = 0; node < 16; node++) {
            for (int goal = 0; goal < 16; goal++) {
                char due = node % 4 != goal % 4 ? along(node % 4, goal % 4, 'w', 'e')
                    : node / 4 != goal / 4 ? along(node / 4, goal / 4, 'n', 's') : 'c';
                is(due, yard.direction(node, goal));
            }
        }
        is("fedc840", path(yard, yard.send(15, 0, 1, 1), 7));
        Meshyard west = yard(2, 2);
        west.way('t');
        west.fail(1, 'w', true);
        is('w', west.direction(1, 2));
        west.fail(1, 'w', false);
        west.send(1, 0, 1, 4);
        west.beats(3);
        is(0, west.owner(0, 'e', 0));
        is('w', west.direction(1, 2));

        says("and otherwise towards its goal east, south or north, by the first of these, in this order, whose link has not failed,");
        for (int mask = 0; mask < 16; mask++) {
            byTurns(0, 3, 's', mask);
            byTurns(2, 1, 'n', mask);
        }
        Meshyard line = yard(2, 2);
        line.way('t');
        line.fail(0, 'e', true);
        line.fail(0, 's', true);
        is('e', line.direction(0, 1));
        is('s', line.direction(0, 2));
        is('n', line.direction(2, 0));
    }

    /** From a corner to the opposite one, with bits: the row east taken, the other one, the link east failed, the other. */
    private static void byTurns(int node, int goal, char other, int mask) {
        Meshyard yard = yard(2, 2);
        boolean isEastTaken = (mask & 1) != 0;
        boolean isOtherTaken = (mask & 2) != 0;
        boolean hasEastFailed = (mask & 4) != 0;
        boolean hasOtherFailed = (mask & 8) != 0;
        if (isEastTaken) {
            holdAhead(yard, node, goal, 'x');
        }
        if (isOtherTaken) {
            holdAhead(yard, node, goal, 'y');
        }
        yard.fail(node, 'e', hasEastFailed);
        yard.fail(node, other, hasOtherFailed);
        yard.way('t');
        boolean isEastFree = !hasEastFailed && !isEastTaken;
        boolean isOtherFree = !hasOtherFailed && !isOtherTaken;
        char due = isEastFree ? 'e' : isOtherFree ? other : !hasEastFailed ? 'e' : !hasOtherFailed ? other : 'e';
        is("mask " + mask + " " + due, "mask " + mask + " " + yard.direction(node, goal));
    }

    /** A packet goes a step, and is held there as its goal sleeps. */
    private static void holdAhead(Meshyard yard, int node, int goal, char way) {
        yard.way(way);
        int packet = yard.send(node, goal, 1, 1);
        beatsAsleep(yard, goal, 3);
        no(yard.head(packet) == node);
    }

    private static void wayTByItsChannel() {
        says("and whose row ahead, of its channel, belongs to no packet and has a place free,");
        // two answers of 0 to 3, of which the first one goes by 1, and the second one so by 2
        Meshyard yard = yard(2, 2);
        yard.way('t');
        yard.ask(3, 0, 0, false, 0);
        yard.ask(3, 0, 0, false, 0);
        yard.beats(7);
        is(2, yard.owner(1, 'w', 1));
        is(-1, yard.owner(1, 'w', 0));
        is('e', yard.direction(0, 3));
        is(0, yard.head(3));
        yard.beats(1);
        is(2, yard.head(3));
        // and the other way: a message takes the row of its channel, and an answer goes there all the same
        Meshyard message = yard(2, 2);
        message.way('t');
        message.ask(3, 0, 0, false, 0);
        message.beats(4);
        message.send(0, 1, 1, 4);
        message.beats(1);
        is(2, message.answer(0));
        message.beats(1);
        is(1, message.head(2));
        // a row that belongs to a packet is not free, though it has places free
        Meshyard wide = yard(2, 2);
        wide.places(4);
        holdAhead(wide, 0, 3, 'x');
        wide.way('t');
        is(2, wide.row(1, 'w', 0));
        is('s', wide.direction(0, 3));
        says("or else by the first one whose link has not failed, or else by the first one.");
        Meshyard held = yard(2, 2);
        holdAhead(held, 0, 3, 'x');
        holdAhead(held, 0, 3, 'y');
        held.way('t');
        is('e', held.direction(0, 3));
        held.fail(0, 'e', true);
        is('s', held.direction(0, 3));
        held.fail(0, 's', true);
        is('e', held.direction(0, 3));
        held.send(0, 3, 1, 1);
        held.beats(2);
        is('l', held.state(2));
    }

    private static void wayOfAll() {
        says("The way of all is 'x' at first, and can be set at any time;");
        is('x', new Meshyard().way('x'));
        is('x', busyNet().way('y'));
        Meshyard yard = new Meshyard();
        yard.send(0, 10, 1, 4);
        yard.way('y');
        yard.beats(2);
        is(4, yard.head(0));
        says("heads go by it as they are looked at, anew each time,");
        yard.way('x');
        yard.beats(1);
        is(5, yard.head(0));
        yard.way('y');
        yard.beats(1);
        is(9, yard.head(0));
        yard.beats(1);
        is(10, yard.head(0));
        yard.beats(5);
        is(10, yard.time(0));
        // held up at 0, it is looked at anew as the row ahead is free again
        Meshyard held = yard(2, 2);
        holdAhead(held, 0, 3, 'x');
        held.way('t');
        is('s', held.direction(0, 3));
        held.beats(9);
        is('e', held.direction(0, 3));
        says("so that one may go elsewhere for a later output of the same beat.");
        Meshyard two = yard(3, 2);
        two.way('t');
        two.send(0, 5, 1, 1);
        two.beats(1);
        two.send(1, 5, 1, 1);
        two.beats(1);
        is('e', two.direction(1, 5));
        two.beats(1);
        is(2, two.head(0));
        is(4, two.head(1));
    }

    private static Meshyard busyNet() {
        Meshyard yard = busy();
        yard.net(3, 2);
        return yard;
    }

    // Rows

    private static void rows() {
        says("Each router has for each channel a row for each direction from which pieces come, named by this direction as seen");
        char[] from = {'e', 'w', 's', 'n'};
        int[] neighbour = {5, 3, 7, 1};
        for (int i = 0; i < 4; i++) {
            Meshyard yard = yard(3, 3);
            yard.send(neighbour[i], 4, 1, 1);
            yard.beats(2);
            for (char side : from) {
                is(side == from[i] ? 1 : 0, yard.row(4, side, 0));
                is(0, yard.row(4, side, 1));
            }
            yard.net(3, 3);
            yard.ask(4, neighbour[i], 0, false, 0);
            yard.beats(5);
            for (char side : from) {
                is(side == from[i] ? 1 : 0, yard.row(4, side, 1));
                is(0, yard.row(4, side, 0));
            }
        }
        says("and one for its core, 'c', each with 1 to 4 places, 2 at first.");
        Meshyard first = yard(3, 1);
        first.send(0, 2, 1, 4);
        beatsAsleep(first, 2, 12);
        is("22", "" + first.row(1, 'w', 0) + first.row(0, 'c', 0));
        for (int places = 1; places <= 4; places++) {
            Meshyard yard = yard(3, 1);
            yard.places(places);
            yard.send(2, 0, 1, 4);
            yard.send(2, 0, 1, 4);
            beatsAsleep(yard, 0, 12);
            is("" + places + places, "" + yard.row(1, 'e', 0) + yard.row(2, 'c', 0));
        }
        refuses(OFF_RANGE, first, () -> first.places(0));
        refuses(OFF_RANGE, first, () -> first.places(5));
    }

    private static void rowsBelong() {
        says("A row of a direction belongs to a packet from when its head comes into it until its tail leaves it.");
        Meshyard yard = yard(3, 1);
        yard.send(0, 2, 1, 1);
        yard.send(0, 2, 1, 1);
        StringBuilder owners = new StringBuilder();
        for (int beat = 0; beat < 9; beat++) {
            owners.append(yard.owner(1, 'w', 0)).append(' ');
            yard.beats(1);
        }
        // the first head comes in the beat 2, its tail leaves in 4, and the second head, looked at ahead of that, comes in 5
        is("-1 -1 0 0 -1 1 1 -1 -1 ", owners.toString());
        // also while it is empty
        Meshyard empty = yard(2, 1);
        empty.places(1);
        empty.send(0, 1, 1, 1);
        empty.beats(3);
        is(0, empty.row(1, 'w', 0));
        is(0, empty.owner(1, 'w', 0));
        empty.beats(1);
        is(1, empty.row(1, 'w', 0));
        is(0, empty.owner(1, 'w', 0));
        empty.beats(1);
        is(-1, empty.owner(1, 'w', 0));
    }

    private static void rowsInOrder() {
        says("Pieces leave a row in the order in which they came.");
        Meshyard yard = yard(2, 1);
        yard.places(4);
        yard.send(0, 1, 7, 1);
        yard.send(0, 1, 8, 1);
        beatsAsleep(yard, 1, 5);
        is(4, yard.row(0, 'c', 0));
        yard.beats(1);
        is(1, yard.head(0));
        is(0, yard.head(1));
        is(2, yard.pieces(0));
        yard.beats(20);
        is(0, yard.receive(1, 0));
        is(1, yard.receive(1, 0));
        yes(yard.time(0) < yard.time(1));

        says("Bodies go where their head went from this row.");
        Meshyard turned = yard(2, 2);
        turned.send(0, 3, 1, 4);
        turned.beats(2);
        is(1, turned.head(0));
        turned.way('y');
        turned.fail(0, 's', true);
        for (int beat = 0; beat < 6; beat++) {
            turned.beats(1);
            is(0, turned.row(2, 'n', 0));
            yes(turned.isSound());
        }
        is('d', turned.state(0));
        is(8, turned.time(0));
        // a later head of the same row goes elsewhere, and its bodies with it
        turned.fail(0, 's', false);
        turned.send(0, 3, 1, 4);
        turned.beats(4);
        is(1, turned.row(2, 'n', 0));
        is(0, turned.row(1, 'w', 0));
    }
}

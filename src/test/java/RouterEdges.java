/** The edges that the document's terms name for routers, failing links, sources and delivery. */
abstract class RouterEdges extends Edges {
    private static final char[] SIDES = {'e', 'w', 's', 'n', 'c'};
    /** The node of a net of 3 by 3 to which each output of the middle leads. */
    private static final int[] BEHIND = {5, 3, 7, 1, 4};

    static void run() {
        of("Terms");
        routersByNumbers();
        outputsInOrder();
        channelsInOrder();
        rowsInTurn();
        firstThatCanBeMoved();
        movedToTheCore();
        movedAhead();
        onePieceOfARow();
        headsAtTheirGoal();
        links();
        losing();
        freeAtOnce();
        bodiesOfFailedLinks();
        sourcesBehindRouters();
        sourcesByNumbers();
        sourcesPutTwo();
        sourcesWake();
        delivery();
        questions();
        lying();
    }

    private static void routersByNumbers() {
        says("In a beat each router that is awake, by the numbers of nodes,");
        // with one place the row ahead is still full, or free already, as the router behind is at it
        Meshyard up = yard(2, 1);
        up.places(1);
        up.send(0, 1, 1, 4);
        up.beats(10);
        is('w', up.state(0));
        up.beats(1);
        is(11, up.time(0));
        Meshyard down = yard(2, 1);
        down.places(1);
        down.send(1, 0, 1, 4);
        down.beats(7);
        is(7, down.time(0));
        Meshyard south = yard(1, 2);
        south.places(1);
        south.send(0, 1, 1, 4);
        south.beats(11);
        is(11, south.time(0));
        // one that sleeps moves nothing, and looks at nothing
        Meshyard asleep = yard(2, 1);
        asleep.sleep(0);
        asleep.fail(0, 'e', true);
        asleep.send(0, 1, 1, 1);
        no(asleep.beats(1));
        is('s', asleep.state(0));
    }

    /** From the middle of a net of 3 by 3 a packet goes to one output, and a head behind it to another one. */
    private static Meshyard twoInARow(int output, int behind) {
        Meshyard yard = yard(3, 3);
        yard.places(4);
        yard.send(4, BEHIND[output], 1, 1);
        yard.send(4, BEHIND[behind], 1, 1);
        beatsAsleep(yard, BEHIND[output], 3);
        is(3, yard.row(4, 'c', 0));
        return yard;
    }

    private static void outputsInOrder() {
        says("does this for each output, in the order 'e', 'w', 's', 'n', 'c', the last one being its core:");
        for (int output = 0; output < 4; output++) {
            for (int behind = 0; behind < 5; behind++) {
                Meshyard yard = twoInARow(output, behind);
                yard.fail(4, SIDES[output], true);
                yard.beats(1);
                is('l', yard.state(0));
                is(behind > output ? 1 : 2, yard.row(4, 'c', 0));
            }
        }
    }

    private static void channelsInOrder() {
        says("it looks at rows whose first piece goes there, those of the channel 1 first, then those of 0,");
        // an answer and a message, whose heads are in the rows of the core at the same time
        Meshyard yard = yard(2, 1);
        yard.ask(1, 0, 0, false, 0);
        yard.beats(3);
        yard.send(0, 1, 1, 1);
        yard.beats(1);
        is("11", "" + yard.row(0, 'c', 1) + yard.row(0, 'c', 0));
        yard.beats(1);
        is("10", "" + yard.row(1, 'w', 1) + yard.row(1, 'w', 0));
        yard.beats(3);
        is(4, yard.time(2));
        // heads are put in together, the answer's pieces go ahead of the message's by two beats
        is(0, yard.lying(1, 0));
        yard.beats(1);
        is(1, yard.lying(1, 0));
        is(6, yard.time(1));
    }

    /** In the middle of a net of 3 by 3, with a message of each neighbour and of itself to it. */
    private static void rowsInTurn() {
        says("in each channel in the order 'e', 'w', 's', 'n', 'c', beginning behind the row that gave to this output");
        Meshyard yard = yard(3, 3);
        for (int side = 0; side < 4; side++) {
            yard.send(BEHIND[side], 4, 1, 2);
        }
        yard.beats(1);
        yard.send(4, 4, 1, 2);
        yard.beats(1);
        // the heads are in all five rows, and now the rows give in turn: e w s n c, three times
        for (int side = 0; side < 5; side++) {
            int packet = side;
            is(4, yard.head(packet));
            yard.beats(1);
            refuses(NONE, yard, () -> yard.head(packet));
        }
        yard.beats(10);
        for (int side = 0; side < 5; side++) {
            is(13 + side - (side == 4 ? 1 : 0), yard.time(side));
        }
        says("and channel last, going around; at first with 'e'.");
        for (int last = 0; last < 4; last++) {
            turnBehind(last);
        }
        behindTheCore();
        turnOfAnOutput();
        turnOfAChannel();
    }

    /** One row gave to the core last, and so the one behind it is the first one of the next five. */
    private static void turnBehind(int last) {
        Meshyard yard = yard(3, 3);
        yard.send(BEHIND[last], 4, 9, 1);
        yard.beats(4);
        is('d', yard.state(0));
        for (int side = 0; side < 4; side++) {
            yard.send(BEHIND[side], 4, side, 1);
        }
        yard.beats(1);
        yard.send(4, 4, 4, 1);
        yard.beats(30);
        for (int i = 1; i <= 5; i++) {
            int side = (last + i) % 5;
            // the head in the beat 2 + i, its tail five beats behind; the own one is made a beat later
            is(7 + i - (side == 4 ? 1 : 0), yard.time(side + 1));
        }
    }

    /** Behind row c it goes around to row e. */
    private static void behindTheCore() {
        Meshyard yard = yard(3, 1);
        yard.send(1, 1, 1, 1);
        yard.beats(3);
        yard.send(0, 1, 1, 1);
        yard.send(2, 1, 1, 1);
        yard.beats(9);
        is(6, yard.time(1));
        is(5, yard.time(2));
    }

    /** By 'y' rows w, s, n and c all go on to output e; each packet has the row ahead to itself. */
    private static void turnOfAnOutput() {
        Meshyard yard = yard(3, 3);
        yard.way('y');
        yard.send(7, 5, 1, 1);
        yard.beats(9);
        // to another output in between
        yard.send(5, 3, 1, 1);
        yard.beats(9);
        for (int source : new int[] {3, 7, 1}) {
            yard.send(source, 5, 1, 1);
        }
        yard.beats(1);
        yard.send(4, 5, 1, 1);
        yard.beats(40);
        // row s gave last, so n, c, w, s; the own one is made a beat later
        yes(yard.time(4) < yard.time(5) + 1);
        yes(yard.time(5) + 1 < yard.time(2));
        yes(yard.time(2) < yard.time(3));
        Meshyard first = yard(3, 3);
        first.way('y');
        for (int source : new int[] {7, 1, 3}) {
            first.send(source, 5, 1, 1);
        }
        first.beats(1);
        first.send(4, 5, 1, 1);
        first.beats(40);
        // at first w, s, n, c
        yes(first.time(2) < first.time(0));
        yes(first.time(0) < first.time(1));
        yes(first.time(1) < first.time(3) + 1);
    }

    /** Row e gave to the core last by channel 0, but by channel 1 it is the first one all the same. */
    private static void turnOfAChannel() {
        Meshyard yard = yard(4, 1);
        yard.send(2, 1, 1, 1);
        yard.beats(9);
        yard.ask(1, 3, 0, false, 0);
        yard.ask(1, 0, 0, false, 0);
        yard.beats(7);
        is("11", "" + yard.row(1, 'e', 1) + yard.row(1, 'w', 1));
        yard.beats(1);
        // row e gave its head, and the tail came; row w keeps its head, and the tail came too
        is("12", "" + yard.row(1, 'e', 1) + yard.row(1, 'w', 1));
        yard.beats(1);
        is("11", "" + yard.row(1, 'e', 1) + yard.row(1, 'w', 1));
        yard.beats(1);
        is("01", "" + yard.row(1, 'e', 1) + yard.row(1, 'w', 1));
        // and row w gave last by channel 1; by channel 0 it is still behind row e, so that row w is the first one
        yard.beats(9);
        yard.send(0, 1, 1, 1);
        yard.send(2, 1, 1, 1);
        yard.beats(9);
        is(5, yard.time(5));
        is(6, yard.time(6));
    }

    private static void firstThatCanBeMoved() {
        says("The first one whose piece can be moved gives it, and no other one gives to this output in this beat,");
        // row w is ahead of row c, but its head cannot go, as the row ahead belongs to the packet of row c
        Meshyard yard = yard(3, 1);
        yard.send(1, 2, 1, 4);
        yard.send(0, 2, 1, 1);
        yard.beats(2);
        is(0, yard.owner(2, 'w', 0));
        is(1, yard.head(1));
        yard.beats(1);
        is(1, yard.head(1));
        is(2, yard.pieces(0));
        // of two that can be moved one goes
        Meshyard two = yard(3, 1);
        two.send(0, 1, 1, 4);
        two.send(2, 1, 1, 4);
        two.beats(2);
        is("11", "" + two.row(1, 'e', 0) + two.row(1, 'w', 0));
        two.beats(1);
        is("12", "" + two.row(1, 'e', 0) + two.row(1, 'w', 0));
        two.beats(1);
        is("21", "" + two.row(1, 'e', 0) + two.row(1, 'w', 0));
        says("of whichever channel.");
        Meshyard both = yard(2, 1);
        both.places(1);
        both.ask(1, 0, 0, false, 0);
        both.beats(3);
        both.send(0, 1, 1, 4);
        both.beats(2);
        // the answer's head went, and the message's did not
        is("10", "" + both.row(1, 'w', 1) + both.row(1, 'w', 0));
        both.beats(1);
        // the answer's tail could not, as the one place was taken, and so the message's head went
        is("01", "" + both.row(1, 'w', 1) + both.row(1, 'w', 0));
        both.beats(1);
        is("10", "" + both.row(1, 'w', 1) + both.row(1, 'w', 0));
        both.beats(1);
        is("01", "" + both.row(1, 'w', 1) + both.row(1, 'w', 0));
    }

    private static void movedToTheCore() {
        says("A piece can be moved to the core always,");
        Meshyard yard = yard(1, 1);
        for (int i = 0; i < 200; i++) {
            yard.send(0, 0, i, 1);
        }
        for (int i = 0; i < 4; i++) {
            yes(yard.beats(100));
        }
        yes(yard.beats(1));
        is(200, yard.lying(0, 0));
        no(yard.beats(1));
        // whatever the core does
        Meshyard core = ran("r0 h", 3);
        core.send(1, 0, 1, 4);
        core.beats(7);
        is('d', core.state(0));
    }

    private static void movedAhead() {
        says("and to the next router if this is awake,");
        Meshyard asleep = yard(2, 1);
        asleep.send(0, 1, 1, 1);
        beatsAsleep(asleep, 1, 9);
        is(0, asleep.head(0));
        asleep.beats(1);
        is(1, asleep.head(0));
        says("the row there has a place free,");
        for (int places = 1; places <= 4; places++) {
            Meshyard line = yard(3, 1);
            line.places(places);
            line.send(0, 2, 1, 4);
            beatsAsleep(line, 2, 12);
            is(places, line.row(1, 'w', 0));
            line.places(Math.min(4, places + 1));
            beatsAsleep(line, 2, 1);
            is(Math.min(4, places + 1), line.row(1, 'w', 0));
        }
        says("and, for a head, belongs to no packet.");
        // with one place row w of 2 is empty after the beat 3, but belongs to the packet whose body is at 1
        Meshyard line = yard(3, 1);
        line.places(1);
        line.send(1, 2, 1, 4);
        line.send(0, 2, 1, 1);
        line.beats(3);
        is(0, line.row(2, 'w', 0));
        is(0, line.owner(2, 'w', 0));
        is(1, line.head(1));
        line.beats(1);
        is(1, line.head(1));
        is(1, line.row(2, 'w', 0));
        is(0, line.owner(2, 'w', 0));
    }

    private static void onePieceOfARow() {
        says("A row gives at most one piece in a beat, and is not looked at again in it;");
        for (int output = 0; output < 4; output++) {
            for (int behind = output + 1; behind < 5; behind++) {
                Meshyard yard = twoInARow(output, behind);
                yard.beats(1);
                is(BEHIND[output], yard.head(0));
                yard.beats(1);
                // the tail went to an output, and the head behind it not to a later one in this beat
                is(4, yard.head(1));
                is(2, yard.row(4, 'c', 0));
                yard.beats(1);
                is(1, yard.row(4, 'c', 0));
            }
        }
        // nor is it lost, or wakes a router, in this beat
        Meshyard lost = twoInARow(0, 2);
        lost.fail(4, 's', true);
        lost.beats(2);
        is('w', lost.state(1));
        lost.beats(1);
        is('l', lost.state(1));
        Meshyard wakes = twoInARow(0, 2);
        wakes.sleep(7);
        wakes.beats(2);
        no(wakes.isAwake(7));
        wakes.beats(1);
        yes(wakes.isAwake(7));

        says("a piece that came into a row in a beat is not looked at in it.");
        Meshyard line = new Meshyard();
        line.send(0, 3, 1, 1);
        is("0123", path(line, 0, 4));
        Meshyard failed = yard(3, 1);
        failed.fail(1, 'e', true);
        failed.send(0, 2, 1, 1);
        failed.beats(2);
        is('w', failed.state(0));
        failed.beats(1);
        is('l', failed.state(0));
        Meshyard asleep = yard(3, 1);
        asleep.sleep(2);
        asleep.send(0, 2, 1, 1);
        asleep.beats(2);
        no(asleep.isAwake(2));
        asleep.beats(1);
        yes(asleep.isAwake(2));
    }

    private static void headsAtTheirGoal() {
        says("A head at its goal goes to 'c'.");
        for (char way : new char[] {'x', 'y', 't'}) {
            Meshyard yard = yard(3, 3);
            yard.way(way);
            for (int node = 0; node < 9; node++) {
                is('c', yard.direction(node, node));
            }
            yard.send(4, 4, 1, 1);
            yard.send(0, 4, 1, 1);
            yard.beats(4);
            for (int side = 0; side < 4; side++) {
                yard.fail(4, SIDES[side], true);
            }
            yard.beats(3);
            is(3, yard.time(0));
            is('d', yard.state(1));
        }
    }

    // Failing

    private static void links() {
        says("A link can fail both ways, and be mended.");
        for (int node = 0; node < 9; node++) {
            if (node % 3 < 2) {
                failAndMend(node, 'e', node + 1, 'w');
            }
            if (node < 6) {
                failAndMend(node, 's', node + 3, 'n');
            }
        }
    }

    private static void failAndMend(int node, char to, int next, char back) {
        for (int i = 0; i < 2; i++) {
            Meshyard yard = yard(3, 3);
            no(i == 0 ? yard.fail(node, to, true) : yard.fail(next, back, true));
            yard.send(node, next, 1, 1);
            yard.send(next, node, 1, 1);
            yard.beats(2);
            is("ll", "" + yard.state(0) + yard.state(1));
            yes(i == 0 ? yard.fail(next, back, false) : yard.fail(node, to, false));
            yard.send(node, next, 1, 1);
            yard.send(next, node, 1, 1);
            yard.beats(4);
            is("dd", "" + yard.state(2) + yard.state(3));
        }
    }

    private static void losing() {
        says("As a router looks at a head that goes to a link that failed, this packet is lost with all its pieces;");
        Meshyard yard = yard(4, 1);
        yard.fail(2, 'e', true);
        yard.send(0, 3, 1, 4);
        yard.beats(3);
        is("111", "" + yard.row(2, 'w', 0) + yard.row(1, 'w', 0) + yard.row(0, 'c', 0));
        is('w', yard.state(0));
        yard.beats(1);
        is('l', yard.state(0));
        is(0, yard.pieces(0));
        is("000", "" + yard.row(2, 'w', 0) + yard.row(1, 'w', 0) + yard.row(0, 'c', 0));
        no(yard.beats(1));
        // from each side, with pieces in three rows, by each channel
        int[][] lines = {{4, 1, 3, 0}, {4, 1, 0, 3}, {1, 4, 3, 0}, {1, 4, 0, 3}};
        char[] last = {'w', 'e', 'n', 's'};
        for (int i = 0; i < 4; i++) {
            Meshyard line = yard(lines[i][0], lines[i][1]);
            int step = lines[i][3] > lines[i][2] ? 1 : -1;
            line.fail(lines[i][3] - step, last[i], true);
            line.send(lines[i][2], lines[i][3], 1, 4);
            line.beats(3);
            is(3, line.pieces(0));
            line.beats(1);
            is('l', line.state(0));
            for (int node = 0; node < 4; node++) {
                for (char side : SIDES) {
                    is(0, line.row(node, side, 0));
                    is(-1, side == 'c' ? -1 : line.owner(node, side, 0));
                }
            }
            Meshyard answer = yard(lines[i][0], lines[i][1]);
            answer.ask(lines[i][3], lines[i][2], 0, false, 0);
            answer.beats(7);
            answer.fail(lines[i][3] - step, last[i], true);
            is(1, answer.pieces(1) - 1);
            answer.beats(1);
            is('w', answer.state(1));
            answer.beats(1);
            is('l', answer.state(1));
            for (int node = 0; node < 4; node++) {
                for (char side : SIDES) {
                    is(0, answer.row(node, side, 1));
                    is(-1, side == 'c' ? -1 : answer.owner(node, side, 1));
                }
            }
        }
        // not while another packet is ahead of it in its row
        Meshyard behind = yard(2, 1);
        behind.places(4);
        behind.send(0, 1, 1, 1);
        behind.send(0, 1, 1, 1);
        beatsAsleep(behind, 1, 3);
        behind.beats(1);
        behind.fail(0, 'e', true);
        behind.beats(1);
        is('w', behind.state(1));
        behind.beats(1);
        is('l', behind.state(1));
        is('d', behind.state(0));
        // nor while a row of the channel 1 gives to this output
        Meshyard answer = yard(2, 1);
        answer.ask(1, 0, 0, false, 0);
        answer.beats(4);
        answer.send(0, 1, 1, 1);
        answer.beats(1);
        answer.fail(0, 'e', true);
        answer.beats(1);
        is('w', answer.state(2));
        answer.beats(1);
        is('l', answer.state(2));
        is('d', answer.state(1));
        // by 't' it goes elsewhere
        Meshyard turns = yard(2, 2);
        turns.way('t');
        turns.fail(0, 'e', true);
        turns.send(0, 3, 1, 1);
        turns.beats(5);
        is('d', turns.state(0));
    }

    private static void freeAtOnce() {
        says("rows that belonged to it are free at once,");
        // of a net of 2 by 3 router 2 loses the first packet, and router 4, behind it in the beat, sends the second head
        Meshyard yard = yard(2, 3);
        yard.send(4, 0, 1, 1);
        yard.send(4, 2, 1, 1);
        beatsAsleep(yard, 0, 4);
        is(0, yard.owner(2, 's', 0));
        is("24", "" + yard.head(0) + yard.head(1));
        yard.fail(2, 'n', true);
        yard.beats(1);
        is('l', yard.state(0));
        is(2, yard.head(1));
        is(1, yard.owner(2, 's', 0));
        // a source behind the routers of this beat has a place again
        Meshyard full = yard(2, 1);
        full.send(0, 1, 1, 4);
        full.send(0, 0, 1, 1);
        beatsAsleep(full, 1, 6);
        is(2, full.row(0, 'c', 0));
        full.fail(0, 'e', true);
        full.beats(1);
        is('l', full.state(0));
        is(0, full.head(1));
        is(1, full.row(0, 'c', 0));

        says("and a piece that is then the first one in its row can be looked at for later outputs.");
        for (int behind = 1; behind < 5; behind++) {
            Meshyard later = twoInARow(0, behind);
            later.fail(4, 'e', true);
            later.beats(1);
            is("l1", "" + later.state(0) + later.row(4, 'c', 0));
        }
        Meshyard same = twoInARow(0, 0);
        same.fail(4, 'e', true);
        same.beats(1);
        is("lw", "" + same.state(0) + same.state(1));
        same.beats(1);
        is("ll", "" + same.state(0) + same.state(1));
        // nor once more at the end of a turn that begins with its row
        Meshyard turned = yard(3, 3);
        turned.way('y');
        turned.places(4);
        turned.send(1, 5, 1, 1);
        turned.beats(9);
        turned.send(4, 5, 1, 1);
        turned.send(4, 5, 1, 1);
        beatsAsleep(turned, 5, 3);
        is(3, turned.row(4, 'c', 0));
        turned.fail(4, 'e', true);
        turned.beats(1);
        is("lw", "" + turned.state(1) + turned.state(2));
        turned.beats(1);
        is("ll", "" + turned.state(1) + turned.state(2));
        Meshyard earlier = twoInARow(3, 0);
        earlier.fail(4, 'n', true);
        earlier.beats(1);
        is("l4", "" + earlier.state(0) + earlier.head(1));
        earlier.beats(1);
        is(5, earlier.head(1));
        // also lost by a later output of the same beat
        Meshyard both = twoInARow(0, 3);
        both.fail(4, 'e', true);
        both.fail(4, 'n', true);
        both.beats(1);
        is("ll", "" + both.state(0) + both.state(1));
    }

    private static void bodiesOfFailedLinks() {
        says("Bodies whose head passed a link go by it all the same.");
        Meshyard yard = yard(3, 1);
        yard.send(0, 2, 1, 4);
        yard.beats(2);
        yard.fail(0, 'e', true);
        yard.beats(1);
        yard.fail(1, 'e', true);
        yard.beats(5);
        is('d', yard.state(0));
        is(8, yard.time(0));
        // one whose head just did not pass
        Meshyard late = yard(3, 1);
        late.send(0, 2, 1, 4);
        late.beats(1);
        late.fail(0, 'e', true);
        late.beats(1);
        is('l', late.state(0));
    }

    // Sources

    private static void sourcesBehindRouters() {
        says("Behind all routers, each core, by numbers, for the channel 1 and then for the channel 0,");
        Meshyard yard = yard(2, 1);
        yard.send(0, 1, 1, 1);
        yard.beats(1);
        is(0, yard.head(0));
        is(1, yard.pieces(0));
        // a place that a router makes free in a beat is taken in the same one
        Meshyard one = yard(1, 1);
        one.places(1);
        one.send(0, 0, 1, 4);
        for (int beat = 1; beat <= 5; beat++) {
            one.beats(1);
            is(1, one.row(0, 'c', 0));
        }
        one.beats(1);
        is(6, one.time(0));
        // an answer is put in in the beat in which its question is delivered
        Meshyard answer = yard(1, 1);
        answer.ask(0, 0, 0, false, 0);
        answer.beats(3);
        is(1, answer.row(0, 'c', 1));
        is('w', answer.state(1));

        says("into its row of the channel, if that has a place free,");
        for (int places = 1; places <= 4; places++) {
            Meshyard full = yard(2, 1);
            full.places(places);
            full.send(0, 1, 1, 4);
            beatsAsleep(full, 1, places);
            is(places, full.row(0, 'c', 0));
            beatsAsleep(full, 1, 3);
            is(places, full.row(0, 'c', 0));
        }
    }

    private static void sourcesByNumbers() {
        says("puts the next piece of the first of its packets of this channel that are not wholly in and not lost, by numbers,");
        Meshyard yard = yard(2, 1);
        yard.places(4);
        yard.send(0, 1, 1, 2);
        yard.send(1, 0, 1, 1);
        yard.send(0, 1, 1, 1);
        beatsAsleep(yard, 1, 3);
        is("302", "" + yard.pieces(0) + yard.pieces(1) + (yard.state(2) == 's' ? 2 : 0));
        beatsAsleep(yard, 1, 1);
        is("31", "" + yard.pieces(0) + yard.pieces(2));
        // one that is lost with pieces yet to be put in is passed over
        Meshyard lost = yard(2, 1);
        lost.fail(0, 'e', true);
        lost.send(0, 1, 1, 4);
        lost.send(0, 0, 1, 1);
        lost.beats(2);
        is('l', lost.state(0));
        is('w', lost.state(1));
        lost.beats(2);
        is('d', lost.state(1));
        // answers do not wait for messages, nor these for them
        Meshyard both = yard(2, 1);
        both.ask(0, 0, 0, false, 0);
        for (int i = 0; i < 4; i++) {
            both.send(0, 1, 1, 4);
        }
        both.beats(3);
        is("11", "" + both.row(0, 'c', 1) + both.row(0, 'c', 0));
    }

    private static void sourcesPutTwo() {
        says("so that it can put two pieces in a beat;");
        Meshyard yard = yard(1, 1);
        yard.ask(0, 0, 0, false, 0);
        yard.beats(2);
        yard.send(0, 0, 1, 4);
        is(1, yard.row(0, 'c', 0));
        yard.beats(1);
        is("11", "" + yard.row(0, 'c', 1) + yard.row(0, 'c', 0));
        is("ww", "" + yard.state(1) + yard.state(2));
        // one of each channel, not two of one
        Meshyard one = yard(2, 1);
        one.places(4);
        one.send(0, 1, 1, 4);
        beatsAsleep(one, 1, 1);
        is(1, one.row(0, 'c', 0));
        beatsAsleep(one, 1, 1);
        is(2, one.row(0, 'c', 0));
    }

    private static void sourcesWake() {
        says("a router that sleeps is woken by this for the next beats, and nothing is put in before.");
        Meshyard yard = yard(2, 1);
        yard.sleep(0);
        yard.send(0, 1, 1, 1);
        no(yard.isAwake(0));
        no(yard.beats(1));
        is('s', yard.state(0));
        is(0, yard.row(0, 'c', 0));
        yes(yard.isAwake(0));
        yes(yard.beats(1));
        is(1, yard.row(0, 'c', 0));
        yard.beats(50);
        yes(yard.isAwake(0));
        is(5, yard.time(0));
        // nothing to put in wakes none
        Meshyard none = yard(2, 1);
        none.send(0, 0, 1, 1);
        none.beats(3);
        none.sleep(0);
        none.beats(9);
        no(none.isAwake(0));
        none.fail(1, 'w', true);
        none.send(1, 0, 1, 4);
        none.beats(2);
        none.sleep(1);
        none.beats(9);
        no(none.isAwake(1));
    }

    // Delivery

    private static void delivery() {
        says("A packet is delivered as its tail goes to the core of its goal.");
        for (int bodies = 1; bodies <= 4; bodies++) {
            Meshyard yard = yard(2, 1);
            yard.send(0, 1, 1, bodies);
            yard.beats(2 + bodies);
            is('w', yard.state(0));
            is(1, yard.pieces(0));
            is(0, yard.lying(1, 0));
            yard.beats(1);
            is('d', yard.state(0));
            is(0, yard.pieces(0));
            is(1, yard.lying(1, 0));
        }
    }

    private static void questions() {
        says("A question asks for a word of the memory there, or adds to it: as it is delivered this is done,");
        Meshyard yard = yard(2, 1);
        yard.set(1, 0, 10);
        yard.ask(0, 1, 0, true, 5);
        yard.beats(3);
        is(10, yard.memory(1, 0));
        yard.set(1, 0, 20);
        yard.beats(1);
        is(25, yard.memory(1, 0));
        is(0, yard.memory(0, 0));
        Meshyard read = yard(2, 1);
        read.ask(0, 1, 0, false, 5);
        read.beats(3);
        read.set(1, 0, 30);
        read.beats(1);
        is(30, read.memory(1, 0));
        read.set(1, 0, 40);
        says("and an answer with the word ahead of that is made, from there to the source.");
        is(20, yard.word(1));
        is(30, read.word(1));
        is('a', yard.kind(1));
        is(1, yard.head(1));
        yard.beats(1);
        is(0, yard.head(1));
        yard.beats(2);
        is('d', yard.state(1));
        is(0, yard.lying(0, 1));
        Meshyard twice = yard(2, 1);
        twice.ask(0, 1, 7, true, MAX);
        twice.ask(0, 1, 7, true, MAX);
        twice.ask(1, 1, 7, false, MAX);
        twice.beats(30);
        is(-2, twice.memory(1, 7));
        is(0, twice.word(twice.answer(0)));
        is(MAX, twice.word(twice.answer(1)));
        // lost ones do nothing
        Meshyard lost = yard(2, 1);
        lost.fail(0, 'e', true);
        lost.ask(0, 1, 0, true, 9);
        lost.beats(9);
        is(0, lost.memory(1, 0));
        is(1, lost.packets());
    }

    private static void lying() {
        says("A message lies there until a core receives it, that which was delivered first,");
        Meshyard yard = yard(2, 2);
        yard.way('t');
        yard.send(1, 3, 7, 4);
        yard.send(0, 3, 8, 1);
        yard.send(0, 3, 9, 1);
        yard.beats(40);
        yes(yard.time(2) < yard.time(1));
        is(2, yard.lying(3, 0));
        is(2, yard.receive(3, 0));
        is(1, yard.lying(3, 0));
        is(1, yard.receive(3, 0));
        is(0, yard.lying(3, 0));
        Meshyard old = yard(1, 1);
        old.send(0, 0, 5, 1);
        for (int i = 0; i < 10; i++) {
            old.beats(100);
            is('d', old.state(0));
        }
        is(0, old.receive(0, 0));
        says("of like ones the lower number, of a source.");
        Meshyard alike = yard(2, 1);
        for (int i = 0; i < 4; i++) {
            alike.send(i % 2, 1, i, 1);
        }
        alike.beats(30);
        sameBeatOfDelivery(alike);
        is(0, alike.receive(1, 0));
        is(1, alike.receive(1, 1));
        is(2, alike.receive(1, 0));
        refuses(NONE, alike, () -> alike.receive(1, 0));
        is(3, alike.receive(1, 1));
    }

    /** A core takes one piece a beat, so that no two are delivered there in the same one: this makes them so. */
    private static void sameBeatOfDelivery(Meshyard yard) {
        try {
            Object packets = TamperTests.field(TamperTests.field(yard, "post"), "all");
            for (int packet = 0; packet < yard.packets(); packet++) {
                TamperTests.change(java.lang.reflect.Array.get(packets, packet), "deliveredIn", 9);
            }
        } catch (ReflectiveOperationException e) {
            throw new AssertionError(e);
        }
    }
}

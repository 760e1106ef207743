/** Promises 15, 16, 17, 19, 20 and 21, and how pieces go through rows and routers. */
public final class NetTests extends Check {
    public static void main(String[] args) {
        promise15Net();
        promise15NetMakesAllAnew();
        promise15NetLeavesNothing();
        promise16Beats();
        promise17Beat();
        promise19Places();
        promise19PlacesOfFullRows();
        promise19PlacesOfEachRow();
        promise20Row();
        promise21Owner();
        oneOfARowInABeat();
        routersByNumbers();
        rowsInTurn();
        turnBehindTheRowThatGaveLast();
        answersFirst();
        twoPiecesPutInABeat();
        piecesStayTogether();
        end("NetTests");
    }

    private static void promise15Net() {
        for (int width = 1; width <= 4; width++) {
            for (int height = 1; height <= 4; height++) {
                Meshyard yard = new Meshyard();
                int nodes = width * height;
                same("nodes", nodes, yard.net(width, height));
                same("the last node", '-', yard.core(nodes - 1));
                raises("a node behind the last one", NO_SUCH, yard, () -> yard.core(nodes));
                yard.send(0, nodes - 1, 1, 1);
                yard.beats(width + height + 1);
                same("as many steps as that", width + height + 1, yard.time(0));
            }
        }
        Meshyard yard = new Meshyard();
        yard.send(2, 3, 1, 1);
        for (int off : new int[] {0, 5, -1, Integer.MIN_VALUE, Integer.MAX_VALUE}) {
            raises("such a width", OFF_RANGE, yard, () -> yard.net(off, 2));
            raises("such a height", OFF_RANGE, yard, () -> yard.net(2, off));
        }
        raises("4 times 4 is no width", OFF_RANGE, yard, () -> yard.net(16, 1));
        yard.net(2, 3);
        same("node 4 is at 0, 2", 'n', yard.direction(4, 2));
        same("node 1 is at 1, 0", 's', yard.direction(1, 3));
    }

    private static void promise15NetMakesAllAnew() {
        Meshyard yard = new Meshyard();
        long first = yard.checksum();
        yard.way('t');
        yard.places(4);
        yard.set(3, 3, 3);
        yard.task(5);
        yard.task(6);
        yard.traffic(0, 1, 9);
        yard.program(1, 'p', 1);
        yard.program(1, 'b', 1);
        yard.start(1);
        yard.send(0, 3, 1, 4);
        yard.sleep(9);
        yard.fail(6, 's', true);
        yard.beats(3);
        same("nodes", 16, yard.net(4, 4));
        same("packets", 0, yard.packets());
        same("beats", 0, yard.beat());
        same("way", 'x', yard.way('x'));
        same("places", 2, yard.places(2));
        same("the checksum as at first", first, yard.checksum());
        same("no owner", -1, yard.owner(1, 'w', 0));
        isTrue("all are awake", yard.isAwake(9));
        same("no link failed", false, yard.fail(6, 's', false));
        same("no core was started", '-', yard.core(1));
        raises("no stack", NONE, yard, () -> yard.top(1));
        raises("no program", CANNOT, yard, () -> yard.start(1));
        raises("no task", NO_SUCH, yard, () -> yard.nodeOf(0));
        yard.task(5);
        yard.task(6);
        same("no traffic", 0, yard.cost());
        raises("no packets", NONE, yard, () -> yard.lostShare());
        yard.send(0, 0, 1, 1);
        yard.beats(3);
        same("numbered from 0", 'd', yard.state(0));
    }

    /** What a chip does tells whether anything was left on it. */
    private static String busyRun(Meshyard yard) {
        StringBuilder told = new StringBuilder();
        for (int node = 0; node < 9; node++) {
            yard.send(node, 8 - node, node, node % 4 + 1);
            yard.ask(node, (node * 5 + 1) % 9, node % 8, true, node);
            yard.send(node, (node + 1) % 9, 1, 1);
        }
        for (int beat = 0; beat < 40; beat++) {
            told.append(yard.beats(1)).append(yard.checksum()).append(yard.isSound()).append(' ');
        }
        for (int packet = 0; packet < yard.packets(); packet++) {
            told.append(yard.state(packet)).append(yard.word(packet));
        }
        return told.append(yard.lostShare()).append(yard.meanTime()).toString();
    }

    private static void promise15NetLeavesNothing() {
        String due = busyRun(yard(3, 3));
        for (int beats : new int[] {1, 5, 17, 60}) {
            Meshyard yard = yard(3, 3);
            for (int node = 0; node < 9; node++) {
                yard.fail(node / 3 * 3, 'e', beats == 17);
                for (int place = 0; place < 8; place++) {
                    yard.set(node, place, 9);
                }
            }
            yard.multicast(0, 511, 1);
            yard.ask(8, 0, 1, false, 0);
            yard.beats(beats);
            yard.places(1);
            yard.net(3, 3);
            same("as on a new chip", due, busyRun(yard));
        }
        Meshyard lost = yard(2, 1);
        lost.fail(0, 'e', true);
        lost.net(2, 1);
        same("the link 0 e is whole", false, lost.fail(0, 'e', false));
        lost.set(1, 0, 5);
        lost.net(2, 1);
        same("the first place", 0, lost.memory(1, 0));
    }

    private static void promise16Beats() {
        Meshyard yard = yard(2, 1);
        same("nothing moves", false, yard.beats(1));
        yard.send(0, 1, 1, 1);
        isTrue("a piece was put in", yard.beats(1));
        isTrue("moved and put in", yard.beats(1));
        isTrue("moved to the core and on", yard.beats(1));
        isTrue("moved to the core", yard.beats(1));
        same("no more", false, yard.beats(1));
        yard.send(0, 1, 1, 1);
        same("only the last one counts", false, yard.beats(5));
        yard.send(0, 1, 1, 1);
        isTrue("only the last one counts", yard.beats(4));
        yard.fail(0, 'e', true);
        yard.send(0, 1, 1, 1);
        yard.beats(1);
        same("a loss alone is no move", false, yard.beats(1));
        same("lost", 'l', yard.state(3));
        yard.program(0, 'p', 1);
        yard.start(0);
        same("a core alone is no move", false, yard.beats(1));
        for (int many : new int[] {0, -1, 101, Integer.MIN_VALUE, Integer.MAX_VALUE}) {
            raises("so many beats", OFF_RANGE, yard, () -> yard.beats(many));
        }
        int before = yard.beat();
        yard.beats(100);
        same("a hundred", before + 100, yard.beat());
    }

    private static void promise17Beat() {
        Meshyard yard = new Meshyard();
        same("at first", 0, yard.beat());
        yard.beats(1);
        yard.beats(41);
        same("all that passed", 42, yard.beat());
        raises("none passes by a wrong call", OFF_RANGE, yard, () -> yard.beats(0));
        same("all that passed", 42, yard.beat());
    }

    private static void promise19Places() {
        Meshyard yard = yard(2, 1);
        same("before", 2, yard.places(1));
        same("before", 1, yard.places(4));
        for (int many : new int[] {0, 5, -1, Integer.MAX_VALUE}) {
            raises("so many places", OFF_RANGE, yard, () -> yard.places(many));
        }
        same("before", 4, yard.places(3));
        // with the next router asleep after each beat nothing leaves the row of the core
        for (int places = 1; places <= 4; places++) {
            Meshyard held = yard(2, 1);
            held.places(places);
            held.send(0, 1, 1, 4);
            holdUp(held, 6);
            same("pieces in the row", places, held.row(0, 'c', 0));
        }
    }

    /** Lets beats pass on a chip of 2 by 1 and puts node 1 to sleep ahead of each. */
    private static void holdUp(Meshyard yard, int beats) {
        for (int i = 0; i < beats; i++) {
            yard.sleep(1);
            yard.beats(1);
        }
    }

    private static void promise19PlacesOfFullRows() {
        Meshyard yard = yard(2, 1);
        yard.places(4);
        yard.send(0, 1, 1, 4);
        holdUp(yard, 6);
        yard.places(1);
        same("it keeps its pieces", 4, yard.row(0, 'c', 0));
        yard.beats(1);
        same("one left, none came", 3, yard.row(0, 'c', 0));
        same("the next row takes one", 1, yard.row(1, 'w', 0));
        yard.beats(1);
        same("the next row is full as it is looked at", 3, yard.row(0, 'c', 0));
        yard.beats(40);
        same("delivered all the same", 'd', yard.state(0));
        isTrue("sound", yard.isSound());
    }

    /** Packets cross the middle of a net of 3 by 3 towards a router that is kept asleep. */
    private static void promise19PlacesOfEachRow() {
        char[] from = {'e', 'w', 's', 'n'};
        int[] source = {5, 3, 7, 1};
        int[] goal = {3, 5, 1, 7};
        for (int side = 0; side < 4; side++) {
            for (int places = 1; places <= 4; places++) {
                Meshyard yard = yard(3, 3);
                yard.places(places);
                yard.send(source[side], goal[side], 1, 4);
                for (int beat = 0; beat < 12; beat++) {
                    yard.sleep(goal[side]);
                    yard.beats(1);
                }
                same("row " + from[side], places, yard.row(4, from[side], 0));
            }
        }
        Meshyard answers = yard(2, 1);
        answers.places(1);
        answers.ask(1, 0, 0, false, 0);
        answers.beats(4);
        same("question delivered, its answer's head put in", 1, answers.row(0, 'c', 1));
        for (int beat = 0; beat < 4; beat++) {
            answers.sleep(1);
            answers.beats(1);
        }
        same("one place in channel 1, too", 1, answers.row(0, 'c', 1));
    }

    private static void promise20Row() {
        Meshyard yard = yard(3, 3);
        yard.send(4, 4, 1, 1);
        yard.send(3, 4, 1, 1);
        yard.send(5, 4, 1, 1);
        yard.send(1, 4, 1, 1);
        yard.send(7, 4, 1, 1);
        yard.beats(1);
        same("at the core", 1, yard.row(4, 'c', 0));
        same("not there yet", 0, yard.row(4, 'w', 0));
        yard.beats(1);
        same("from the west", 1, yard.row(4, 'w', 0));
        same("from the east", 1, yard.row(4, 'e', 0));
        same("from the north", 1, yard.row(4, 'n', 0));
        same("from the south", 1, yard.row(4, 's', 0));
        same("of the other channel", 0, yard.row(4, 'w', 1));
        yard.ask(3, 5, 0, false, 0);
        yard.beats(20);
        yard.ask(4, 4, 0, false, 0);
        yard.beats(3);
        same("the answer's head", 1, yard.row(4, 'c', 1));
        raises("no node", NO_SUCH, yard, () -> yard.row(9, 'z', 5));
        raises("no node", NO_SUCH, yard, () -> yard.row(-1, 'e', 0));
        for (char from : new char[] {'z', 'E', 'C', 0, 'm', (char) 65535}) {
            raises("such a row", OFF_RANGE, yard, () -> yard.row(0, from, 0));
        }
        for (int channel : new int[] {-1, 2, Integer.MIN_VALUE, Integer.MAX_VALUE}) {
            raises("such a channel", OFF_RANGE, yard, () -> yard.row(0, 'e', channel));
        }
    }

    private static void promise21Owner() {
        Meshyard yard = yard(3, 1);
        yard.send(1, 1, 1, 1);
        yard.send(0, 2, 1, 2);
        int[] first = {-1, -1, 1, 1, 1, -1, -1};
        int[] second = {-1, -1, -1, 1, 1, 1, -1};
        for (int beat = 0; beat < first.length; beat++) {
            same("of row w at 1 after beat " + beat, first[beat], yard.owner(1, 'w', 0));
            same("of row w at 2 after beat " + beat, second[beat], yard.owner(2, 'w', 0));
            same("of the other channel", -1, yard.owner(1, 'w', 1));
            same("of row e at 1", -1, yard.owner(1, 'e', 0));
            yard.beats(1);
        }
        yard.ask(2, 0, 0, false, 0);
        yard.beats(7);
        same("an answer's row", 3, yard.owner(1, 'w', 1));
        same("not that of channel 0", -1, yard.owner(1, 'w', 0));
        raises("no node", NO_SUCH, yard, () -> yard.owner(3, 'z', 5));
        for (char from : new char[] {'c', 'z', 'W', 0, (char) 65535}) {
            raises("such a row", OFF_RANGE, yard, () -> yard.owner(0, from, 0));
        }
        for (int channel : new int[] {-1, 2, Integer.MAX_VALUE}) {
            raises("such a channel", OFF_RANGE, yard, () -> yard.owner(0, 'e', channel));
        }
    }

    /** The row of the core gives a tail to output e, and not the head behind it to output s in the same beat. */
    private static void oneOfARowInABeat() {
        Meshyard yard = yard(2, 2);
        yard.places(4);
        yard.send(0, 1, 1, 1);
        yard.send(0, 2, 1, 1);
        for (int beat = 0; beat < 3; beat++) {
            yard.sleep(1);
            yard.beats(1);
        }
        same("both are in row c", 3, yard.row(0, 'c', 0));
        yard.beats(1);
        same("the first head went", 1, yard.head(0));
        yard.beats(1);
        same("the first tail went", 2, yard.row(0, 'c', 0));
        same("the second head did not", 0, yard.head(1));
        yard.beats(1);
        same("now it did", 2, yard.head(1));
    }

    /** With one place a row towards higher numbers is still full as the router ahead of it is looked at. */
    private static void routersByNumbers() {
        Meshyard up = yard(2, 1);
        up.places(1);
        up.send(0, 1, 1, 4);
        up.beats(30);
        same("every other beat towards higher numbers", 11, up.time(0));
        Meshyard down = yard(2, 1);
        down.places(1);
        down.send(1, 0, 1, 4);
        down.beats(30);
        same("every beat towards lower numbers", 7, down.time(0));
        Meshyard wide = yard(2, 1);
        wide.send(0, 1, 1, 4);
        wide.beats(30);
        same("every beat with two places", 7, wide.time(0));
    }

    private static void rowsInTurn() {
        Meshyard yard = yard(3, 1);
        yard.send(0, 1, 1, 1);
        yard.send(1, 1, 1, 1);
        yard.send(2, 1, 1, 1);
        yard.beats(20);
        // c gave in beat 2, then e, w, c, e and w
        same("of its own core", 5, yard.time(1));
        same("from the east", 6, yard.time(2));
        same("from the west", 7, yard.time(0));
    }

    /** Two rows stream to one output, piece by piece in turn, a third output has a turn of its own. */
    private static void turnBehindTheRowThatGaveLast() {
        Meshyard yard = yard(3, 2);
        yard.send(0, 1, 1, 4);
        yard.send(2, 1, 1, 4);
        yard.beats(3);
        // beat 3: row e gives, as it is the first in order, and row w keeps two
        same("row e gave", 1, yard.row(1, 'e', 0));
        same("row w waits", 2, yard.row(1, 'w', 0));
        yard.beats(1);
        same("row w gave", 2, yard.row(1, 'e', 0));
        same("row w gave, and none could come, as it was full", 1, yard.row(1, 'w', 0));
        yard.beats(1);
        same("row e gave, and one came behind it", 2, yard.row(1, 'e', 0));
        same("one came to row w", 2, yard.row(1, 'w', 0));
        isTrue("sound", yard.isSound());
    }

    private static void answersFirst() {
        Meshyard yard = yard(2, 1);
        yard.ask(1, 0, 0, false, 0);
        yard.send(0, 1, 1, 4);
        yard.beats(30);
        same("the question", 4, yard.time(0));
        same("the answer is not held up", 4, yard.time(2));
        same("the message is, by two pieces", 9, yard.time(1));
    }

    private static void twoPiecesPutInABeat() {
        Meshyard yard = yard(2, 1);
        yard.ask(0, 0, 0, false, 0);
        yard.send(0, 1, 1, 1);
        yard.send(0, 1, 1, 1);
        yard.beats(3);
        same("the answer's head", 1, yard.row(0, 'c', 1));
        same("the question is delivered", 'd', yard.state(0));
        same("and a message's head", 'w', yard.state(1));
    }

    /** Packets of one source are put in one behind the other, and one waits for a row until the tail ahead left it. */
    private static void piecesStayTogether() {
        Meshyard yard = yard(2, 1);
        yard.send(0, 1, 1, 4);
        yard.send(0, 1, 1, 4);
        yard.beats(6);
        same("the first one is wholly in", 'w', yard.state(0));
        same("its tail is ahead", 0, yard.owner(1, 'w', 0));
        same("the head of the second one is behind", 0, yard.head(1));
        yard.beats(1);
        same("the row was not free as the head was looked at", 0, yard.head(1));
        same("but is now", -1, yard.owner(1, 'w', 0));
        yard.beats(1);
        same("so the head goes there", 1, yard.owner(1, 'w', 0));
        same("so the head goes there", 1, yard.head(1));
    }
}

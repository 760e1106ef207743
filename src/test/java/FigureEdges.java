import java.lang.reflect.Array;

/** The edges that the promises 37 to 45 name. */
abstract class FigureEdges extends Edges {
    static void run() {
        task();
        traffic();
        cost();
        swap();
        swapRefused();
        nodeOf();
        checksum();
        lostShare();
        meanTime();
        isSound();
    }

    /** A yard of a width and height with a task at each of some nodes. */
    private static Meshyard placed(int width, int height, int... nodes) {
        Meshyard yard = yard(width, height);
        for (int node : nodes) {
            yard.task(node);
        }
        return yard;
    }

    private static void task() {
        of("Promise 37");
        says("Adds a task.");
        Meshyard yard = new Meshyard();
        yard.task(15);
        is(15, yard.nodeOf(0));
        yard.task(0);
        is(0, yard.nodeOf(1));
        says("Returns its number.");
        for (int number = 2; number < 8; number++) {
            is(number, yard.task(5));
        }
        says("Throws `IndexOutOfBoundsException` if there is no such node");
        Meshyard none = new Meshyard();
        for (int node : new int[] {-1, 16, MIN, MAX}) {
            refuses(NO_SUCH, none, () -> none.task(node));
        }
        Meshyard small = yard(3, 2);
        is(0, small.task(5));
        refuses(NO_SUCH, small, () -> small.task(6));
        says("Throws `IllegalStateException` if there are 8");
        refuses(NOT_NOW, yard, () -> yard.task(0));
        refuses(NOT_NOW, yard, () -> yard.task(15));
        is(5, yard.nodeOf(7));
        Meshyard seven = placed(1, 1, 0, 0, 0, 0, 0, 0, 0);
        is(7, seven.task(0));
        refuses(NOT_NOW, seven, () -> seven.task(0));
    }

    private static void traffic() {
        of("Promise 38");
        says("Sets the traffic of two tasks.");
        Meshyard yard = placed(4, 4, 0, 15, 0, 15, 0, 15, 0, 15);
        yard.traffic(0, 7, 99);
        is(594, yard.cost());
        yard.traffic(7, 0, 98);
        is(588, yard.cost());
        yard.traffic(0, 7, 0);
        is(0, yard.cost());
        says("Returns the one before.");
        is(0, yard.traffic(6, 7, 99));
        is(99, yard.traffic(7, 6, 1));
        is(1, yard.traffic(6, 7, 0));
        is(0, yard.traffic(7, 6, 0));
        for (int first = 0; first < 8; first++) {
            for (int second = first + 1; second < 8; second++) {
                is(0, yard.traffic(second, first, first * 8 + second));
            }
        }
        for (int first = 0; first < 8; first++) {
            for (int second = first + 1; second < 8; second++) {
                is(first * 8 + second, yard.traffic(first, second, 0));
            }
        }
        says("Throws `IndexOutOfBoundsException` if there is no such task, for either");
        Meshyard two = placed(2, 1, 0, 1);
        two.traffic(0, 1, 5);
        for (int task : new int[] {-1, 2, 8, MIN, MAX}) {
            refuses(NO_SUCH, two, () -> two.traffic(task, 0, 1));
            refuses(NO_SUCH, two, () -> two.traffic(0, task, 1));
            refuses(NO_SUCH, two, () -> two.traffic(task, task, 1));
        }
        refuses(NO_SUCH, yard, () -> yard.traffic(8, 0, 1));
        refuses(NO_SUCH, yard, () -> yard.traffic(0, 8, 1));
        Meshyard none = new Meshyard();
        refuses(NO_SUCH, none, () -> none.traffic(0, 1, 1));
        says("Throws `IllegalArgumentException` if both are the same, or it is out of range");
        refuses(OFF_RANGE, two, () -> two.traffic(0, 0, 1));
        refuses(OFF_RANGE, two, () -> two.traffic(1, 1, 0));
        refuses(OFF_RANGE, yard, () -> yard.traffic(7, 7, 99));
        for (int much : new int[] {-1, 100, MIN, MAX}) {
            refuses(OFF_RANGE, two, () -> two.traffic(0, 1, much));
        }
        is(5, two.traffic(0, 1, 0));
        is(0, two.traffic(0, 1, 99));
        is(99, two.traffic(0, 1, 99));
    }

    private static void cost() {
        of("Promise 39");
        says("Returns the cost of the placing.");
        is(0, new Meshyard().cost());
        is(0, placed(4, 4, 15).cost());
        Meshyard yard = placed(4, 4, 3, 12);
        is(0, yard.cost());
        yard.traffic(0, 1, 1);
        is(6, yard.cost());
        says("Returns the cost.");
        Meshyard most = placed(4, 4, 0, 15, 0, 15, 0, 15, 0, 15);
        for (int first = 0; first < 8; first++) {
            for (int second = first + 1; second < 8; second++) {
                most.traffic(first, second, 99);
            }
        }
        is(9504, most.cost());
        Meshyard same = placed(4, 4, 5, 5);
        same.traffic(0, 1, 99);
        is(0, same.cost());
    }

    private static void swap() {
        of("Promise 40");
        says("Exchanges the nodes of the two tasks by which the cost falls most,");
        Meshyard yard = placed(4, 1, 0, 3, 1);
        yard.traffic(0, 1, 10);
        yard.traffic(0, 2, 1);
        // 31 now; with 0 and 1 exchanged 32, with 0 and 2 exchanged 21, with 1 and 2 exchanged 13
        is(18, yard.swap());
        is(0, yard.nodeOf(0));
        is(1, yard.nodeOf(1));
        is(3, yard.nodeOf(2));
        is(13, yard.cost());
        says("of several the pair with the lower first one,");
        Meshyard first = placed(4, 1, 0, 3, 1, 2);
        first.traffic(0, 1, 1);
        // 0 with 3 and 1 with 2 fall by two each, 0 with 2 and 1 with 3 by one
        is(2, first.swap());
        is(2, first.nodeOf(0));
        is(3, first.nodeOf(1));
        is(1, first.nodeOf(2));
        is(0, first.nodeOf(3));
        says("then the lower second one.");
        Meshyard second = placed(3, 1, 0, 2, 1, 1);
        second.traffic(0, 1, 5);
        is(5, second.swap());
        is(1, second.nodeOf(0));
        is(2, second.nodeOf(1));
        is(0, second.nodeOf(2));
        is(1, second.nodeOf(3));
        says("Returns by how much it falls.");
        Meshyard least = placed(3, 1, 0, 2, 1);
        least.traffic(0, 1, 1);
        is(1, least.swap());
        is(1, least.cost());
        Meshyard last = placed(4, 4, 5, 5, 5, 5, 5, 0, 15, 1);
        last.traffic(5, 6, 99);
        // 0 to 15 is 6 steps; 1 is 5 from 15 and 1 from 0; 5 is 4 from 15 and 2 from 0
        is(495, last.swap());
        is(1, last.nodeOf(6));
        is(15, last.nodeOf(7));
    }

    private static void swapRefused() {
        says("Throws `NoSuchElementException` if it falls by none");
        Meshyard none = new Meshyard();
        refuses(NONE, none, () -> none.swap());
        Meshyard one = placed(4, 4, 3);
        refuses(NONE, one, () -> one.swap());
        Meshyard two = placed(4, 4, 0, 15);
        refuses(NONE, two, () -> two.swap());
        two.traffic(0, 1, 99);
        refuses(NONE, two, () -> two.swap());
        // exchanged with 2 it would stay as it is, with 1 as well
        Meshyard alike = placed(3, 1, 0, 1, 2);
        alike.traffic(0, 1, 4);
        alike.traffic(1, 2, 4);
        refuses(NONE, alike, () -> alike.swap());
        is(8, alike.cost());
        Meshyard rising = placed(3, 1, 0, 1, 2);
        rising.traffic(0, 1, 4);
        refuses(NONE, rising, () -> rising.swap());
        is(0, rising.nodeOf(0));
        is(1, rising.nodeOf(1));
        is(2, rising.nodeOf(2));
    }

    private static void nodeOf() {
        of("Promise 41");
        says("Returns the node of a task.");
        Meshyard yard = placed(4, 4, 15, 0);
        is(15, yard.nodeOf(0));
        is(0, yard.nodeOf(1));
        says("Returns the node.");
        Meshyard full = placed(4, 2, 7, 6, 5, 4, 3, 2, 1, 0);
        for (int task = 0; task < 8; task++) {
            is(7 - task, full.nodeOf(task));
        }
        says("Throws `IndexOutOfBoundsException` if there is no such task");
        for (int task : new int[] {-1, 2, 8, MIN, MAX}) {
            refuses(NO_SUCH, yard, () -> yard.nodeOf(task));
        }
        for (int task : new int[] {-1, 8, MIN, MAX}) {
            refuses(NO_SUCH, full, () -> full.nodeOf(task));
        }
        Meshyard none = new Meshyard();
        refuses(NO_SUCH, none, () -> none.nodeOf(0));
    }

    private static long sum(long start, long... added) {
        long sum = start;
        for (long one : added) {
            sum = sum * 31 + one;
        }
        return sum;
    }

    private static void checksum() {
        of("Promise 42");
        says("Returns a sum over the chip, as at a cut between two beats.");
        Meshyard yard = yard(1, 1);
        yard.send(0, 0, 5, 1);
        is(sum(7, 0, 0, 0, 0, 0, 0, 0, 0, 0, 's'), yard.checksum());
        yard.beats(1);
        is(sum(7, 0, 0, 0, 0, 0, 0, 0, 0, 1, 'w'), yard.checksum());
        yard.beats(1);
        is(sum(7, 0, 0, 0, 0, 0, 0, 0, 0, 1, 'w'), yard.checksum());
        yard.beats(1);
        is(sum(7, 0, 0, 0, 0, 0, 0, 0, 0, 0, 'd'), yard.checksum());
        is(yard.checksum(), yard.checksum());
        says("Returns 7 at first, then for each node by numbers, for each of its words of memory 31 times itself plus the word,");
        yard.receive(0, 0);
        yard.ask(0, 0, 0, false, 0);
        is(sum(7, 0, 0, 0, 0, 0, 0, 0, 0, 0, 'r', 's'), yard.checksum());
        yard.beats(3);
        is(sum(7, 0, 0, 0, 0, 0, 0, 0, 0, 1, 'r', 'd', 'w'), yard.checksum());
        Meshyard words = yard(1, 2);
        words.set(0, 0, MIN);
        words.set(0, 7, MAX);
        words.set(1, 0, -1);
        words.set(1, 7, 1);
        is(sum(7, MIN, 0, 0, 0, 0, 0, 0, MAX, 0, -1, 0, 0, 0, 0, 0, 0, 1, 0), words.checksum());
        words.fail(0, 's', true);
        words.send(0, 1, 1, 4);
        words.beats(2);
        is(sum(7, MIN, 0, 0, 0, 0, 0, 0, MAX, 0, -1, 0, 0, 0, 0, 0, 0, 1, 0, 'l'), words.checksum());
        // it goes round: 16 nodes of 9 terms, and 200 packets
        Meshyard all = new Meshyard();
        is(sum(7, new long[144]), all.checksum());
        long due = all.checksum();
        for (int i = 0; i < 200; i++) {
            all.send(15, 0, 1, 1);
            due = sum(due, 's');
        }
        is(due, all.checksum());
    }

    private static void lostShare() {
        of("Promise 43");
        says("Returns the share of packets that are lost.");
        Meshyard yard = yard(2, 1);
        yard.send(0, 1, 1, 1);
        is(0.0f, yard.lostShare());
        yard.beats(1);
        yard.fail(0, 'e', true);
        is(0.0f, yard.lostShare());
        yard.beats(1);
        is(1.0f, yard.lostShare());
        says("Returns their number divided by that of all, both converted to float.");
        for (int packets = 2; packets <= 200; packets++) {
            yard.send(1, 1, 1, 1);
            is(1.0f / (float) packets, yard.lostShare());
        }
        yard.net(2, 1);
        yard.fail(0, 'e', true);
        yard.ask(0, 1, 0, false, 0);
        yard.send(0, 1, 0, 1);
        yard.send(0, 0, 0, 1);
        yard.beats(20);
        is(2.0f / 3.0f, yard.lostShare());
        says("Throws `NoSuchElementException` if there are none");
        Meshyard none = new Meshyard();
        refuses(NONE, none, () -> none.lostShare());
        none.beats(100);
        refuses(NONE, none, () -> none.lostShare());
        yard.net(1, 1);
        refuses(NONE, yard, () -> yard.lostShare());
    }

    private static void meanTime() {
        of("Promise 44");
        says("Returns the mean time of packets that were delivered.");
        Meshyard yard = yard(2, 1);
        yard.send(0, 0, 1, 1);
        yard.beats(3);
        is(3.0, yard.meanTime());
        yard.receive(0, 0);
        is(3.0, yard.meanTime());
        yard.send(0, 0, 1, 4);
        yard.beats(5);
        is(3.0, yard.meanTime());
        yard.beats(1);
        is(4.5, yard.meanTime());
        yard.fail(0, 'e', true);
        yard.send(0, 1, 1, 1);
        yard.beats(5);
        is(4.5, yard.meanTime());
        says("Returns the sum divided by their number, both converted to double.");
        yard.ask(1, 1, 0, false, 0);
        yard.beats(3);
        is((3.0 + 6.0 + 3.0) / 3.0, yard.meanTime());
        yard.beats(2);
        is((3.0 + 6.0 + 3.0 + 3.0) / 4.0, yard.meanTime());
        yard.send(1, 1, 0, 2);
        yard.send(1, 1, 0, 2);
        yard.beats(9);
        // the second one is put in behind the first one, three beats later
        is((15.0 + 4.0 + 7.0) / 6.0, yard.meanTime());
        Meshyard all = yard(1, 1);
        for (int i = 0; i < 200; i++) {
            all.send(0, 0, i, 1);
        }
        for (int i = 0; i < 5; i++) {
            all.beats(100);
        }
        // one after the other, two beats each: 3, 5, .. 401
        is(202.0, all.meanTime());
        all.net(1, 1);
        all.send(0, 0, 1, 4);
        all.beats(6);
        is(6.0, all.meanTime());
        says("Throws `NoSuchElementException` if there are none");
        Meshyard none = yard(2, 1);
        refuses(NONE, none, () -> none.meanTime());
        none.send(0, 1, 1, 1);
        for (int beat = 0; beat < 4; beat++) {
            refuses(NONE, none, () -> none.meanTime());
            none.beats(1);
        }
        is(4.0, none.meanTime());
        Meshyard lost = yard(2, 1);
        lost.fail(0, 'e', true);
        lost.send(0, 1, 1, 1);
        lost.beats(9);
        refuses(NONE, lost, () -> lost.meanTime());
    }

    private static void isSound() {
        of("Promise 45");
        says("Tells whether all pieces of each packet that is on the way are in rows, yet to be put in, or taken,");
        yes(new Meshyard().isSound());
        yes(yard(1, 1).isSound());
        Meshyard yard = busy();
        for (int beat = 0; beat < 40; beat++) {
            yes(yard.isSound());
            yard.beats(1);
        }
        Meshyard full = yard(2, 2);
        for (int i = 0; i < 40; i++) {
            full.multicast(i % 4, 15, i);
            full.beats(1);
            yes(full.isSound());
        }
        Meshyard wide = new Meshyard();
        for (int i = 0; i < 12; i++) {
            wide.multicast(i, 0xFFFF, i);
        }
        wide.multicast(12, 0xFF, 0);
        is(200, wide.packets());
        for (int beat = 0; beat < 30; beat++) {
            yes(wide.isSound());
            wide.beats(1);
        }
        says("Returns true if so.");
        // a piece is gone
        no(tampered(0, (chip, row) -> TamperTests.change(row, "count", 0)));
        no(tampered(1, (chip, row) -> TamperTests.change(row, "count", 2)));
        no(tampered(2, (chip, row) -> TamperTests.change(row, "count", 0)));
        // one is there twice, and another one not
        no(tampered(1, (chip, row) -> put(row, "piece", 0, 2)));
        no(tampered(1, (chip, row) -> put(row, "piece", 1, 3)));
        no(tampered(2, (chip, row) -> put(row, "piece", 0, 1)));
        no(tampered(0, (chip, row) -> put(row, "piece", 0, 3)));
        // two are exchanged in a row, and along the way
        no(tampered(1, (chip, row) -> {
            put(row, "piece", 0, 2);
            put(row, "piece", 1, 1);
        }));
        no(tampered(1, (chip, row) -> {
            put(row, "piece", 0, 0);
            put(TamperTests.row(chip, 2, 1), "piece", 0, 1);
        }));
        // a row of a direction has pieces of two packets
        for (int place = 0; place < 3; place++) {
            int of = place;
            no(tampered(1, (chip, row) -> put(row, "packet", of, 7)));
        }
        no(tampered(1, (chip, row) -> {
            put(row, "packet", 3, 7);
            TamperTests.change(row, "count", 4);
        }));
        twoPacketsInARow();
        // a router sleeps with a piece
        for (int node = 0; node < 3; node++) {
            int of = node;
            no(tampered(node, (chip, row) ->
                TamperTests.change(Array.get(TamperTests.field(chip, "routers"), of), "isAwake", false)));
        }
        besideTheWay();
    }

    private interface Change {
        void make(Meshyard yard, Object row) throws ReflectiveOperationException;
    }

    private static void put(Object row, String name, int place, int value) throws ReflectiveOperationException {
        Array.set(TamperTests.field(row, name), place, value);
    }

    /** What isSound answers once the row with a packet's pieces at a node was changed inside the object. */
    private static boolean tampered(int node, Change change) {
        Meshyard yard = TamperTests.onTheWay();
        made(() -> change.make(yard, TamperTests.row(yard, node, node == 0 ? 4 : 1)));
        return yard.isSound();
    }

    private interface Reach {
        void make() throws ReflectiveOperationException;
    }

    private static void made(Reach reach) {
        try {
            reach.make();
        } catch (ReflectiveOperationException e) {
            throw new AssertionError(e);
        }
    }

    /** In each row of a direction and channel of each node of a small net: two strange pieces, of like or other packets. */
    private static void twoPacketsInARow() {
        for (int node = 0; node < 4; node++) {
            for (int row = 0; row < 10; row++) {
                for (int other = 5; other < 7; other++) {
                    Meshyard yard = yard(2, 2);
                    int[] at = {node, row, other};
                    made(() -> {
                        Object rows = TamperTests.row(yard, at[0], at[1]);
                        put(rows, "packet", 0, 5);
                        put(rows, "packet", 1, at[2]);
                        TamperTests.change(rows, "count", 2);
                    });
                    is(other == 5 || row % 5 == 4, yard.isSound());
                }
            }
        }
    }

    /** A body that is as far from the source as the piece ahead of it, but at another node, or in another row there. */
    private static void besideTheWay() {
        Meshyard yard = yard(2, 2);
        yard.send(0, 3, 1, 1);
        beatsAsleep(yard, 3, 3);
        is(2, yard.row(1, 'w', 0));
        yes(yard.isSound());
        Meshyard other = yard(2, 2);
        other.send(0, 3, 1, 1);
        beatsAsleep(other, 3, 3);
        made(() -> move(TamperTests.row(yard, 1, 1), TamperTests.row(yard, 2, 3)));
        no(yard.isSound());
        made(() -> {
            Object core = TamperTests.row(other, 1, 4);
            put(core, "packet", 1, 0);
            put(core, "piece", 1, 1);
            put(core, "packet", 0, 9);
            TamperTests.change(core, "count", 2);
            TamperTests.change(TamperTests.row(other, 1, 1), "count", 1);
        });
        no(other.isSound());
    }

    /** Moves the second piece of a row into another row. */
    private static void move(Object from, Object to) throws ReflectiveOperationException {
        put(to, "packet", 0, 0);
        put(to, "piece", 0, 1);
        TamperTests.change(to, "count", 1);
        TamperTests.change(from, "count", 1);
    }
}

/** Promises 18, 25, 26 and 27: the ways, and the proof by the graph of links. */
public final class WayTests extends Check {
    public static void main(String[] args) {
        promise18Way();
        alongXFirst();
        alongYFirst();
        byTurns();
        byTurnsWestFirst();
        byTurnsAnewInABeat();
        byTurnsAroundAFailedLink();
        theWayOfNow();
        promise25Leads();
        promise25LeadsOfFailedLinks();
        promise26HasRing();
        promise27Direction();
        promise27DirectionByTurns();
        end("WayTests");
    }

    private static void promise18Way() {
        Meshyard yard = new Meshyard();
        same("before", 'x', yard.way('y'));
        same("before", 'y', yard.way('t'));
        same("before", 't', yard.way('t'));
        for (char way : new char[] {'X', 'z', 'c', 0, ' ', (char) 65535}) {
            raises("no way", OFF_RANGE, yard, () -> yard.way(way));
        }
        same("before", 't', yard.way('x'));
    }

    /** The nodes at which the head of a packet is, beat by beat, as digits of base 16. */
    private static String path(Meshyard yard, int packet, int beats) {
        StringBuilder path = new StringBuilder();
        for (int i = 0; i < beats; i++) {
            yard.beats(1);
            path.append(Integer.toHexString(yard.head(packet)));
        }
        return path.toString();
    }

    private static String pathBy(char way, int node, int goal, int beats) {
        Meshyard yard = new Meshyard();
        yard.way(way);
        return path(yard, yard.send(node, goal, 1, 1), beats);
    }

    private static void alongXFirst() {
        same("east, then south", "01237b", pathBy('x', 0, 11, 6));
        same("west, then north", "fedc84", pathBy('x', 15, 4, 6));
        same("west, then south", "32159", pathBy('x', 3, 9, 5));
        same("south alone", "159", pathBy('x', 1, 9, 3));
    }

    private static void alongYFirst() {
        same("south, then east", "0489ab", pathBy('y', 0, 11, 6));
        same("north, then west", "fb7654", pathBy('y', 15, 4, 6));
        same("south, then west", "37ba9", pathBy('y', 3, 9, 5));
        same("east alone", "456", pathBy('y', 4, 6, 3));
    }

    private static void byTurns() {
        same("east as it is free", "01237b", pathBy('t', 0, 11, 6));
        same("east, then north", "cdefb7", pathBy('t', 12, 7, 6));
        Meshyard yard = yard(2, 2);
        yard.way('t');
        yard.send(0, 3, 1, 1);
        yard.send(0, 3, 1, 1);
        yard.beats(3);
        same("the first one goes east", 1, yard.owner(1, 'w', 0) + 1);
        yard.beats(1);
        same("the second one goes south, as row w of 1 belongs to the first", 2, yard.head(1));
        Meshyard up = yard(2, 2);
        up.way('t');
        up.send(2, 1, 1, 1);
        up.send(2, 1, 1, 1);
        up.beats(4);
        same("the second one goes north", 0, up.head(1));
    }

    private static void byTurnsWestFirst() {
        same("west, then south", "32159", pathBy('t', 3, 9, 5));
        same("west, then north", "fedc84", pathBy('t', 15, 4, 6));
        Meshyard yard = yard(2, 2);
        yard.way('t');
        yard.fail(1, 'w', true);
        yard.send(1, 2, 1, 1);
        yard.beats(2);
        same("west, whatever failed", 'l', yard.state(0));
        // row e of 0 is emptied every other beat alone, in turn with row c of 0
        Meshyard held = yard(2, 2);
        held.way('t');
        held.send(1, 0, 1, 4);
        held.send(0, 0, 1, 4);
        held.send(1, 2, 1, 1);
        held.beats(10);
        same("row e of 0 belongs to a packet", 0, held.owner(0, 'e', 0));
        same("west, whatever is free", 1, held.head(2));
        same("west, whatever is free", 'w', held.direction(1, 2));
        held.beats(1);
        same("west, as it is free", 0, held.head(2));
    }

    /** Two heads at node 1 would go east; the first one does, and so the other one goes south in the same beat. */
    private static void byTurnsAnewInABeat() {
        Meshyard yard = yard(3, 2);
        yard.way('t');
        yard.send(0, 5, 1, 1);
        yard.beats(1);
        yard.send(1, 5, 1, 1);
        yard.beats(1);
        same("at 1", 1, yard.head(0));
        same("at 1", 1, yard.head(1));
        same("it would go east", 'e', yard.direction(1, 5));
        yard.beats(1);
        same("row w is ahead of row c, and goes east", 2, yard.head(0));
        same("the other one goes south", 4, yard.head(1));
    }

    private static void byTurnsAroundAFailedLink() {
        Meshyard yard = yard(2, 2);
        yard.way('t');
        yard.fail(0, 'e', true);
        yard.send(0, 3, 1, 1);
        yard.beats(2);
        same("south", 2, yard.head(0));
        yard.send(0, 3, 1, 1);
        yard.beats(1);
        same("south, though its row belongs to another one", 's', yard.direction(0, 3));
        yard.beats(20);
        same("both come", 'd', yard.state(1));
        yard.fail(0, 's', true);
        same("the first one, as both failed", 'e', yard.direction(0, 3));
        yard.send(0, 3, 1, 1);
        yard.beats(9);
        same("lost", 'l', yard.state(2));
        yard.send(0, 1, 1, 1);
        yard.beats(9);
        same("there is no way round if it is not nearer", 'l', yard.state(3));
    }

    private static void theWayOfNow() {
        Meshyard yard = new Meshyard();
        yard.send(0, 10, 1, 2);
        yard.beats(2);
        same("east", 1, yard.head(0));
        yard.way('y');
        yard.beats(1);
        same("south now", 5, yard.head(0));
        yard.way('x');
        yard.beats(1);
        same("east again", 6, yard.head(0));
        yard.beats(1);
        same("and there", 10, yard.head(0));
        isTrue("its bodies go where it went", yard.isSound());
        yard.beats(3);
        same("in time", 8, yard.time(0));
    }

    private static int leads(int width, int height, char way) {
        Meshyard yard = yard(width, height);
        yard.way(way);
        return yard.leads();
    }

    private static void promise25Leads() {
        same("2 by 2 by x", 4, leads(2, 2, 'x'));
        same("2 by 2 by y", 4, leads(2, 2, 'y'));
        same("2 by 2 by t", 6, leads(2, 2, 't'));
        same("1 by 1", 0, leads(1, 1, 't'));
        same("2 by 1", 0, leads(2, 1, 'x'));
        same("4 by 1", 4, leads(4, 1, 'x'));
        same("1 by 4", 4, leads(1, 4, 't'));
        // straight on: 4 in each of 4 lines and columns; turns: (1 + 2 + 2 + 1) squared
        same("4 by 4 by x", 16 + 16 + 36, leads(4, 4, 'x'));
        same("4 by 4 by y", 16 + 16 + 36, leads(4, 4, 'y'));
        // and from south or north to east alone: 6 in each of 3 columns
        same("4 by 4 by t", 16 + 16 + 36 + 18, leads(4, 4, 't'));
        Meshyard full = new Meshyard();
        full.places(1);
        full.multicast(0, 0xFFFF, 1);
        full.beats(9);
        full.way('t');
        same("wherever places are free", 86, full.leads());
    }

    private static void promise25LeadsOfFailedLinks() {
        Meshyard yard = yard(2, 2);
        yard.fail(0, 'e', true);
        same("0 e and 1 w are gone", 2, yard.leads());
        yard.way('t');
        same("by turns", 3, yard.leads());
        yard.fail(1, 'w', false);
        same("mended", 6, yard.leads());
        Meshyard line = yard(4, 1);
        line.fail(1, 'e', true);
        same("no link left leads on", 0, line.leads());
        Meshyard end = yard(4, 1);
        end.fail(2, 'e', true);
        same("0 e to 1 e, and 2 w to 1 w", 2, end.leads());
        Meshyard west = yard(3, 2);
        west.way('t');
        int before = west.leads();
        west.fail(1, 'w', true);
        // 2 w led to 1 w and 1 s, 1 w and 4 w to 0; 0 e to 1 e and 1 s, 3 n to 0 e and 4 n to 1 w is no turn
        same("by turns less those of 0 e and 1 w", before - 5, west.leads());
    }

    private static void promise26HasRing() {
        for (char way : new char[] {'x', 'y', 't'}) {
            Meshyard yard = new Meshyard();
            yard.way(way);
            same("no ring by " + way, false, yard.hasRing());
            yard.fail(5, 'e', true);
            yard.fail(10, 'n', true);
            same("no ring by " + way + " with failed links", false, yard.hasRing());
            same("no ring in small nets", 1, yard.net(1, 1));
            same("no ring in small nets", false, yard.hasRing());
        }
    }

    private static void promise27Direction() {
        Meshyard yard = yard(3, 3);
        same("x", "ceeseesee", directions(yard, 0));
        same("at its goal", 'c', yard.direction(4, 4));
        same("x", "wnewcewse", directions(yard, 4));
        yard.way('y');
        same("y", "ceessssss", directions(yard, 0));
        same("y", "nnnwcesss", directions(yard, 4));
        for (int node : new int[] {-1, 9, Integer.MIN_VALUE, Integer.MAX_VALUE}) {
            raises("no node", NO_SUCH, yard, () -> yard.direction(node, 0));
            raises("no goal", NO_SUCH, yard, () -> yard.direction(0, node));
        }
        yard.way('x');
        yard.fail(0, 'e', true);
        same("also to a failed link", 'e', yard.direction(0, 8));
    }

    private static String directions(Meshyard yard, int node) {
        StringBuilder all = new StringBuilder();
        for (int goal = 0; goal < 9; goal++) {
            all.append(yard.direction(node, goal));
        }
        return all.toString();
    }

    private static void promise27DirectionByTurns() {
        Meshyard yard = yard(3, 3);
        yard.way('t');
        same("t", "wnewcewse", directions(yard, 4));
        yard.fail(4, 'e', true);
        same("around the failed link if it can", "wnnwcewss", directions(yard, 4));
        yard.fail(4, 'e', false);
        yard.send(3, 5, 1, 4);
        yard.beats(3);
        same("row w of 5 belongs to a packet", "wnnwcewss", directions(yard, 4));
        yard.send(4, 1, 1, 4);
        yard.beats(3);
        same("row s of 1 too, and so east", "wnewcewss", directions(yard, 4));
        yard.beats(20);
        same("all is free", "wnewcewse", directions(yard, 4));
        yard.sleep(5);
        same("a router that sleeps has free rows", 'e', yard.direction(4, 8));
        // an answer's row is of the other channel
        yard.ask(5, 4, 0, false, 0);
        yard.beats(7);
        same("an answer is there", 3, yard.owner(5, 'w', 1));
        same("of the other channel", 'e', yard.direction(4, 8));
    }
}

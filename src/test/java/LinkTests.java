/** Promises 22, 23 and 24: links that fail, routers that sleep and are woken. */
public final class LinkTests extends Check {
    public static void main(String[] args) {
        promise22Fail();
        promise22FailThrows();
        losesAsTheHeadIsLookedAt();
        bodiesGoByAFailedLink();
        freesRowsAtOnce();
        nextPieceForLaterOutputs();
        nextPieceNotForTheSameOutput();
        promise23Sleep();
        promise23SleepNotWithPieces();
        promise23SleepNotWithItsCore();
        promise24IsAwake();
        headsWake();
        sourcesWake();
        answersWake();
        end("LinkTests");
    }

    private static void promise22Fail() {
        Meshyard yard = yard(3, 3);
        same("it had not", false, yard.fail(4, 'e', true));
        isTrue("both ways", yard.fail(5, 'w', true));
        isTrue("it had", yard.fail(4, 'e', false));
        same("mended both ways", false, yard.fail(5, 'w', false));
        yard.fail(4, 's', true);
        isTrue("both ways", yard.fail(7, 'n', true));
        yard.fail(4, 'n', true);
        isTrue("both ways", yard.fail(1, 's', true));
        same("no other one", false, yard.fail(4, 'w', false));
        yard.fail(7, 'n', false);
        yard.send(4, 7, 1, 1);
        yard.send(4, 1, 1, 1);
        yard.beats(9);
        same("by a mended link", 'd', yard.state(0));
        same("by a failed link", 'l', yard.state(1));
        yard.send(1, 4, 1, 1);
        yard.beats(9);
        same("the other way", 'l', yard.state(2));
    }

    private static void promise22FailThrows() {
        Meshyard yard = yard(3, 2);
        raises("no node", NO_SUCH, yard, () -> yard.fail(6, 'c', true));
        raises("no node", NO_SUCH, yard, () -> yard.fail(-1, 'e', true));
        for (char direction : new char[] {'c', 'E', 'x', 0, (char) 65535}) {
            raises("no direction", OFF_RANGE, yard, () -> yard.fail(0, direction, true));
        }
        raises("no link", CANNOT, yard, () -> yard.fail(0, 'w', true));
        raises("no link", CANNOT, yard, () -> yard.fail(0, 'n', true));
        raises("no link to the next line", CANNOT, yard, () -> yard.fail(2, 'e', true));
        raises("no link to the line before", CANNOT, yard, () -> yard.fail(3, 'w', true));
        raises("no link", CANNOT, yard, () -> yard.fail(5, 's', false));
    }

    private static void losesAsTheHeadIsLookedAt() {
        Meshyard yard = yard(3, 1);
        yard.fail(1, 'e', true);
        yard.send(0, 2, 1, 4);
        yard.beats(2);
        same("not looked at yet", 'w', yard.state(0));
        isTrue("a body moved ahead of the loss", yard.beats(1));
        same("lost", 'l', yard.state(0));
        same("with all its pieces", 0, yard.row(0, 'c', 0) + yard.row(1, 'w', 0));
        same("its row is free", -1, yard.owner(1, 'w', 0));
        same("no more is put in", false, yard.beats(1));
        yard.fail(1, 'e', false);
        same("lost for good", false, yard.beats(5));
        yard.send(0, 2, 1, 1);
        yard.beats(5);
        same("the next one as ever", 'd', yard.state(1));

        Meshyard answers = yard(2, 1);
        answers.ask(0, 1, 0, true, 3);
        answers.beats(4);
        answers.fail(0, 'e', true);
        answers.beats(9);
        same("the question stays delivered", 'd', answers.state(0));
        same("its answer is lost", 'l', answers.state(1));
        same("and known", 1, answers.answer(0));
        same("the sum is kept", 3, answers.memory(1, 0));
    }

    private static void bodiesGoByAFailedLink() {
        Meshyard yard = yard(3, 1);
        yard.send(0, 2, 1, 4);
        yard.beats(3);
        yard.fail(1, 'e', true);
        yard.fail(0, 'e', true);
        yard.send(0, 2, 1, 1);
        yard.beats(5);
        same("its head had passed", 'd', yard.state(0));
        same("in time", 8, yard.time(0));
        yard.beats(1);
        same("the next head had not", 'l', yard.state(1));
    }

    /** As a packet is lost its row is free for a head that is looked at later in the same beat. */
    private static void freesRowsAtOnce() {
        Meshyard yard = yard(3, 2);
        yard.fail(1, 'e', true);
        yard.send(0, 2, 1, 4);
        yard.beats(2);
        same("it belongs to 0", 0, yard.owner(1, 'w', 0));
        yard.beats(1);
        same("it belongs to none", -1, yard.owner(1, 'w', 0));
        heldBehindALostOne();
    }

    /**
     * Packet 0 holds row n of 3 from its head at 3, which sleep holds up; as the link ahead of it fails it is lost by
     * router 3, and router 1, looked at ahead of that, can send the next head only in the beat behind.
     */
    private static void heldBehindALostOne() {
        Meshyard yard = yard(2, 3);
        yard.sleep(5);
        yard.send(1, 5, 1, 1);
        yard.send(1, 3, 1, 1);
        yard.beats(3);
        same("woken, but not passed", 3, yard.head(0));
        yard.sleep(5);
        yard.beats(1);
        same("held up", 3, yard.head(0));
        same("held up behind it", 1, yard.head(1));
        yard.fail(3, 's', true);
        yard.beats(1);
        same("lost", 'l', yard.state(0));
        same("looked at ahead of the loss", 1, yard.head(1));
        yard.beats(1);
        same("now free", 3, yard.head(1));
        // the other way round the router that waits is looked at behind the one that loses
        Meshyard back = yard(2, 3);
        back.sleep(0);
        back.send(4, 0, 1, 1);
        back.send(4, 2, 1, 1);
        back.beats(3);
        same("woken, but not passed", 2, back.head(0));
        back.sleep(0);
        back.beats(1);
        same("held up behind it", 4, back.head(1));
        back.fail(2, 'n', true);
        back.beats(1);
        same("lost", 'l', back.state(0));
        same("free at once", 2, back.head(1));
    }

    /** A yard of 2 by 2 whose row c at 0 holds a packet of 1 body to one goal, and behind it a head to another. */
    private static Meshyard twoInARow(int asleep, int goal, int behind) {
        Meshyard yard = yard(2, 2);
        yard.places(4);
        yard.send(0, goal, 1, 1);
        yard.send(0, behind, 1, 1);
        for (int i = 0; i < 3; i++) {
            yard.sleep(asleep);
            yard.beats(1);
        }
        same("a packet and a head", 3, yard.row(0, 'c', 0));
        return yard;
    }

    private static void nextPieceForLaterOutputs() {
        Meshyard yard = twoInARow(1, 1, 2);
        yard.fail(0, 'e', true);
        yard.beats(1);
        same("lost by output e", 'l', yard.state(0));
        same("looked at for output s in the same beat", 2, yard.head(1));
        Meshyard own = twoInARow(2, 2, 0);
        own.fail(0, 's', true);
        own.beats(1);
        same("lost by output s", 'l', own.state(0));
        raises("taken by output c in the same beat", NONE, own, () -> own.head(1));
    }

    private static void nextPieceNotForTheSameOutput() {
        Meshyard yard = twoInARow(1, 1, 1);
        yard.fail(0, 'e', true);
        yard.beats(1);
        same("lost", 'l', yard.state(0));
        same("not looked at again for output e", 'w', yard.state(1));
        yard.beats(1);
        same("but in the next beat", 'l', yard.state(1));
        Meshyard earlier = twoInARow(2, 2, 1);
        earlier.fail(0, 's', true);
        earlier.beats(1);
        same("lost by output s", 'l', earlier.state(0));
        same("output e was ahead of that", 0, earlier.head(1));
        earlier.beats(1);
        same("now it goes", 1, earlier.head(1));
        notLookedAtTwiceByTheTurn();
    }

    /** Row n gave to output e last, so row c is the first one looked at, and the others go around behind it. */
    private static void notLookedAtTwiceByTheTurn() {
        Meshyard yard = yard(2, 3);
        yard.way('y');
        yard.places(4);
        yard.send(0, 3, 1, 1);
        yard.beats(9);
        yard.send(2, 3, 1, 1);
        yard.send(2, 3, 1, 1);
        for (int beat = 0; beat < 3; beat++) {
            yard.sleep(3);
            yard.beats(1);
        }
        same("a packet and a head", 3, yard.row(2, 'c', 0));
        yard.fail(2, 'e', true);
        yard.beats(1);
        same("lost", 'l', yard.state(1));
        same("not looked at again for output e", 'w', yard.state(2));
        yard.beats(1);
        same("but in the next beat", 'l', yard.state(2));
    }

    private static void promise23Sleep() {
        Meshyard yard = yard(2, 2);
        isTrue("it was awake", yard.sleep(3));
        same("it was not", false, yard.sleep(3));
        for (int node : new int[] {-1, 4, Integer.MIN_VALUE, Integer.MAX_VALUE}) {
            raises("no node", NO_SUCH, yard, () -> yard.sleep(node));
        }
        yard.beats(20);
        same("it sleeps on", false, yard.isAwake(3));
        isTrue("others do not", yard.isAwake(2));
    }

    private static void promise23SleepNotWithPieces() {
        Meshyard yard = yard(3, 1);
        yard.send(0, 2, 1, 1);
        same("a packet that waits does not count", true, yard.sleep(0));
        yard.beats(2);
        raises("row c has a piece", CANNOT, yard, () -> yard.sleep(0));
        yard.beats(1);
        raises("row w has a piece", CANNOT, yard, () -> yard.sleep(1));
        yard.ask(1, 1, 0, false, 0);
        yard.beats(9);
        isTrue("now it can", yard.sleep(1));

        // with one place the body stays behind for a beat, and the row ahead of it is empty, but belongs to its packet
        Meshyard owned = yard(2, 1);
        owned.places(1);
        owned.send(0, 1, 1, 1);
        owned.beats(2);
        same("its head is at 1, its body at 0", 1, owned.row(0, 'c', 0));
        owned.beats(1);
        same("its head is taken", 0, owned.row(1, 'w', 0));
        same("its row belongs to it", 0, owned.owner(1, 'w', 0));
        raises("a row belongs to a packet", CANNOT, owned, () -> owned.sleep(1));
        owned.beats(5);
        isTrue("now it can", owned.sleep(1));

        Meshyard answers = yard(2, 1);
        answers.ask(0, 1, 0, false, 0);
        answers.beats(4);
        raises("row c of channel 1 has a piece", CANNOT, answers, () -> answers.sleep(1));
    }

    private static void promise23SleepNotWithItsCore() {
        Meshyard yard = yard(2, 1);
        yard.program(0, 'r', 1);
        yard.program(0, 'b', 0);
        yard.program(0, 'h', 0);
        yard.program(1, 'r', 0);
        yard.start(0);
        raises("it runs", CANNOT, yard, () -> yard.sleep(0));
        yard.beats(1);
        raises("it waits for a message", CANNOT, yard, () -> yard.sleep(0));
        yard.send(1, 0, 1, 1);
        yard.start(1);
        yard.beats(8);
        same("it waits at the barrier, as 1 waits for a message", 'b', yard.core(0));
        raises("it waits at the barrier", CANNOT, yard, () -> yard.sleep(0));
        yard.send(0, 1, 1, 1);
        yard.beats(9);
        same("it halts", 'h', yard.core(0));
        isTrue("it halts", yard.sleep(0));
        same("it stopped", 'x', yard.core(1));
        isTrue("it stopped", yard.sleep(1));
        yard.start(1);
        raises("it sleeps, but its core runs", CANNOT, yard, () -> yard.sleep(1));
        same("it sleeps", false, yard.isAwake(1));
    }

    private static void promise24IsAwake() {
        Meshyard yard = yard(2, 2);
        isTrue("at first", yard.isAwake(3));
        yard.sleep(3);
        same("it sleeps", false, yard.isAwake(3));
        yard.program(3, 'p', 1);
        yard.program(3, 'h', 1);
        yard.start(3);
        yard.beats(2);
        same("a core that runs does not wake it", false, yard.isAwake(3));
        same("it ran", 'h', yard.core(3));
        for (int node : new int[] {-1, 4, Integer.MIN_VALUE, Integer.MAX_VALUE}) {
            raises("no node", NO_SUCH, yard, () -> yard.isAwake(node));
        }
    }

    private static void headsWake() {
        Meshyard yard = yard(3, 1);
        yard.sleep(1);
        yard.sleep(2);
        yard.send(0, 2, 1, 1);
        yard.beats(1);
        same("not looked at yet", false, yard.isAwake(1));
        yard.beats(1);
        isTrue("woken", yard.isAwake(1));
        same("its head waited", 0, yard.head(0));
        same("the next one sleeps on", false, yard.isAwake(2));
        yard.beats(1);
        same("its head went", 1, yard.head(0));
        yard.beats(1);
        isTrue("woken", yard.isAwake(2));
        same("its head waited", 1, yard.head(0));
        yard.beats(9);
        same("a beat more for each", 7, yard.time(0));
        yard.sleep(1);
        yard.beats(3);
        same("asleep again, and not woken by what was", false, yard.isAwake(1));
        isTrue("sound", yard.isSound());

        Meshyard lost = yard(2, 1);
        lost.sleep(1);
        lost.fail(0, 'e', true);
        lost.send(0, 1, 1, 1);
        lost.beats(5);
        same("lost", 'l', lost.state(0));
        same("a lost one wakes none", false, lost.isAwake(1));
    }

    private static void sourcesWake() {
        Meshyard yard = yard(2, 1);
        yard.sleep(1);
        yard.send(1, 0, 1, 1);
        same("nothing is put in", false, yard.beats(1));
        same("it waits", 's', yard.state(0));
        isTrue("but it is woken", yard.isAwake(1));
        isTrue("put in", yard.beats(1));
        same("on the way", 'w', yard.state(0));
        yard.beats(9);
        same("a beat more", 5, yard.time(0));
    }

    private static void answersWake() {
        Meshyard yard = yard(3, 1);
        yard.ask(0, 2, 0, false, 0);
        yard.beats(5);
        same("delivered", 1, yard.answer(0));
        yard.sleep(0);
        yard.sleep(1);
        yard.beats(20);
        same("two beats more", 7, yard.time(1));
    }
}

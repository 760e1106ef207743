/** Promises 42 to 45: figures of the chip. */
public final class FigureTests extends Check {
    public static void main(String[] args) {
        promise42Checksum();
        promise42ChecksumOfRowsAndPackets();
        promise43LostShare();
        promise44MeanTime();
        promise45IsSound();
        end("FigureTests");
    }

    private static void promise42Checksum() {
        same("one node", sum(7, 0, 0, 0, 0, 0, 0, 0, 0, 0), yard(1, 1).checksum());
        Meshyard yard = yard(1, 1);
        yard.set(0, 0, -5);
        yard.set(0, 7, Integer.MAX_VALUE);
        same("words of memory", sum(7, -5, 0, 0, 0, 0, 0, 0, Integer.MAX_VALUE, 0), yard.checksum());
        Meshyard two = yard(2, 1);
        two.set(1, 1, 3);
        same("nodes by numbers", sum(7, 0, 0, 0, 0, 0, 0, 0, 0, 0, 0, 3, 0, 0, 0, 0, 0, 0, 0), two.checksum());
        long first = 7;
        for (int i = 0; i < 16 * 9; i++) {
            first *= 31;
        }
        same("at first", first, new Meshyard().checksum());
    }

    private static long sum(long start, long... added) {
        long sum = start;
        for (long one : added) {
            sum = sum * 31 + one;
        }
        return sum;
    }

    private static void promise42ChecksumOfRowsAndPackets() {
        Meshyard yard = yard(2, 1);
        long[] pieces = new long[18];
        yard.send(0, 1, 9, 2);
        yard.send(1, 1, 9, 1);
        same("two wait", sum(sum(7, pieces), 's', 's'), yard.checksum());
        yard.beats(2);
        // node 0 has the first body of 0, node 1 its head and the body of 1
        pieces[8] = 1;
        pieces[17] = 2;
        same("pieces in rows", sum(sum(7, pieces), 'w', 'w'), yard.checksum());
        yard.beats(9);
        pieces[8] = 0;
        pieces[17] = 0;
        yard.receive(1, 0);
        yard.fail(0, 'e', true);
        yard.send(0, 1, 1, 1);
        yard.beats(2);
        same("received, delivered and lost", sum(sum(7, pieces), 'r', 'd', 'l'), yard.checksum());
        Meshyard answers = yard(1, 1);
        answers.ask(0, 0, 0, true, 2);
        answers.beats(3);
        same("a row of channel 1 counts", sum(7, 2, 0, 0, 0, 0, 0, 0, 0, 1, 'd', 'w'), answers.checksum());
    }

    private static void promise43LostShare() {
        Meshyard yard = yard(2, 1);
        raises("no packets", NONE, yard, () -> yard.lostShare());
        yard.send(0, 0, 1, 1);
        same("none of one", 0.0f, yard.lostShare());
        yard.fail(0, 'e', true);
        yard.send(0, 1, 1, 1);
        yard.beats(9);
        same("one of two", 0.5f, yard.lostShare());
        yard.send(1, 1, 1, 1);
        same("one of three", 1.0f / 3.0f, yard.lostShare());
        yard.ask(1, 0, 0, false, 0);
        yard.beats(9);
        same("a question, too", 0.5f, yard.lostShare());
        Meshyard first = yard(2, 1);
        first.fail(0, 'e', true);
        first.send(0, 1, 1, 1);
        first.beats(2);
        same("the first one, too", 1.0f, first.lostShare());
        yard.net(1, 1);
        raises("no packets any more", NONE, yard, () -> yard.lostShare());
    }

    private static void promise44MeanTime() {
        Meshyard yard = yard(3, 1);
        raises("no packets", NONE, yard, () -> yard.meanTime());
        yard.send(0, 0, 1, 1);
        raises("none delivered", NONE, yard, () -> yard.meanTime());
        yard.beats(20);
        same("of one", 3.0, yard.meanTime());
        yard.send(0, 1, 1, 1);
        same("those on the way do not count", 3.0, yard.meanTime());
        yard.beats(20);
        same("of two", 3.5, yard.meanTime());
        yard.receive(0, 0);
        same("received ones count", 3.5, yard.meanTime());
        yard.fail(1, 'e', true);
        yard.send(0, 2, 1, 1);
        yard.beats(20);
        same("lost ones do not", 3.5, yard.meanTime());
        yard.ask(1, 1, 0, false, 0);
        yard.beats(20);
        // the question takes 3, and its answer, made in the third beat, 3 with that beat
        same("questions and answers do", (3.0 + 4.0 + 3.0 + 3.0) / 4.0, yard.meanTime());
        Meshyard third = yard(2, 1);
        third.send(0, 0, 1, 1);
        third.send(1, 1, 1, 1);
        third.send(1, 0, 1, 1);
        third.beats(30);
        same("three", (third.time(0) + third.time(1) + third.time(2)) / 3.0, third.meanTime());
    }

    private static void promise45IsSound() {
        isTrue("at first", new Meshyard().isSound());
        Meshyard yard = new Meshyard();
        for (int node = 0; node < 16; node++) {
            yard.send(node, 15 - node, 1, 4);
            yard.ask(node, (node * 7 + 3) % 16, node % 8, true, 1);
        }
        char[] ways = {'x', 't', 'y'};
        for (int beat = 0; beat < 60; beat++) {
            yard.way(ways[beat % 3]);
            yard.places(beat % 4 + 1);
            yard.fail(beat % 4 + 4, 's', beat % 5 == 0);
            yard.beats(1);
            isTrue("after the beat " + (beat + 1), yard.isSound());
        }
        isTrue("some are lost", yard.lostShare() > 0);
        isTrue("some are delivered", yard.meanTime() > 3);
    }
}

import java.util.Random;
import java.util.function.Supplier;

/** Random runs of calls, each answered by Meshyard and by PlainYard, who must agree at every call. */
public final class RandomRuns {
    private static final String SIDES = "ewsnc";
    private static final String INSTRUCTIONS = "pls+-*drjbh";
    private static final int[] ODD = {-1, Integer.MIN_VALUE, Integer.MAX_VALUE, 16, 17, 200, 8, 12, 0};

    private final Random random;
    private final Meshyard yard = new Meshyard();
    private final PlainYard plain = new PlainYard();
    private final int temper;
    private final boolean isCrowded;
    private final boolean isSmall;
    private final boolean isCoded;
    private int nodes = 16;
    private final StringBuilder story = new StringBuilder();
    private static final java.util.TreeMap<String, Integer> SEEN = new java.util.TreeMap<>();

    private RandomRuns(long seed) {
        random = new Random(seed);
        temper = random.nextInt(4);
        isCrowded = random.nextInt(4) == 0;
        isSmall = random.nextInt(3) == 0;
        isCoded = random.nextInt(3) == 0;
    }

    public static void main(String[] args) {
        int runs = args.length > 0 ? Integer.parseInt(args[0]) : 3000;
        long first = args.length > 1 ? Long.parseLong(args[1]) : 1;
        int wrong = 0;
        for (long seed = first; seed < first + runs && wrong < 3; seed++) {
            RandomRuns run = new RandomRuns(seed);
            String fault = run.go();
            if (fault != null) {
                wrong++;
                System.out.println("seed " + seed + ": " + fault);
                if (args.length > 2) {
                    System.out.println(run.story);
                }
            }
        }
        if (args.length > 2) {
            System.out.println(SEEN);
        }
        System.out.println(wrong == 0 ? "all " + runs + " random runs agree" : wrong + " random runs do not agree");
        if (wrong != 0) {
            System.exit(1);
        }
    }

    private String go() {
        for (int i = 0; i < 512; i++) {
            String fault = i == 0 && isSmall ? smallNet() : random.nextInt(100) < (isCrowded ? 70 : 35) ? act() : look();
            if (fault != null) {
                return "call " + i + ", " + fault;
            }
        }
        return null;
    }

    private static String answer(Supplier<Object> call) {
        try {
            return String.valueOf(call.get());
        } catch (RuntimeException e) {
            return e.getClass().getName();
        }
    }

    private String both(String call, Supplier<Object> mine, Supplier<Object> due) {
        String got = answer(mine);
        String want = answer(due);
        story.append(call).append(" -> ").append(got).append('\n');
        String name = call.substring(0, call.indexOf('('));
        SEEN.merge(name + (got.contains("Exception") ? " " + got.substring(got.lastIndexOf('.') + 1) : ""), 1, Integer::sum);
        return got.equals(want) ? null : call + " answered " + got + ", due is " + want;
    }

    private boolean isOdd() {
        return random.nextInt(60) == 0;
    }

    private int odd() {
        return ODD[random.nextInt(ODD.length)];
    }

    private int below(int many) {
        return isOdd() ? odd() : random.nextInt(many);
    }

    private int node() {
        return below(nodes);
    }

    private int packet() {
        int many = Math.max(1, plain.packets());
        return isOdd() ? odd() : Math.max(0, many - 1 - (int) (many * random.nextDouble() * random.nextDouble()));
    }

    private char letter(String of) {
        return isOdd() ? (char) random.nextInt(random.nextBoolean() ? 128 : 65536) : of.charAt(random.nextInt(of.length()));
    }

    private int number() {
        return random.nextInt(20) == 0 ? random.nextInt() : random.nextInt(20) - 5;
    }

    private int few() {
        int most = temper == 0 ? 2 : temper == 1 ? 4 : temper == 2 ? 10 : 60;
        return isOdd() ? odd() : 1 + random.nextInt(most);
    }

    private String act() {
        int many = random.nextInt(100);
        if (isCrowded && many < 60) {
            return many < 25 ? send() : many < 40 ? multicast() : many < 55 ? ask() : beats();
        }
        if (isCoded && many < 50) {
            return many < 35 ? program() : start();
        }
        switch (random.nextInt(26)) {
            case 0: case 1: case 2: return send();
            case 3: return multicast();
            case 4: case 5: return ask();
            case 6: return receive();
            case 7: return random.nextInt(isCrowded ? 60 : 6) == 0 ? net() : beats();
            case 8: case 9: case 10: case 11: case 12: return beats();
            case 13: return random.nextInt(3) == 0 ? way() : beats();
            case 14: return places();
            case 15: return fail();
            case 16: case 17: return sleep();
            case 18: case 19: case 20: return program();
            case 21: return start();
            case 22: return random.nextInt(3) == 0 ? clear() : start();
            case 23: return set();
            case 24: return task();
            default: return traffic();
        }
    }

    private String send() {
        int a = node();
        int b = node();
        int w = number();
        int n = isOdd() ? odd() : 1 + random.nextInt(4);
        return both("send(" + a + ", " + b + ", " + w + ", " + n + ")", () -> yard.send(a, b, w, n), () -> plain.send(a, b, w, n));
    }

    private String multicast() {
        int a = node();
        int goals = random.nextInt(8) == 0 ? random.nextInt() : random.nextInt(1 << nodes) & random.nextInt(1 << nodes) & random.nextInt(1 << nodes);
        int w = number();
        return both("multicast(" + a + ", " + goals + ", " + w + ")", () -> yard.multicast(a, goals, w), () -> plain.multicast(a, goals, w));
    }

    private String ask() {
        int a = node();
        int b = node();
        int p = below(8);
        boolean is = random.nextBoolean();
        int m = number();
        return both("ask(" + a + ", " + b + ", " + p + ", " + is + ", " + m + ")", () -> yard.ask(a, b, p, is, m), () -> plain.ask(a, b, p, is, m));
    }

    private String receive() {
        int p = packet();
        boolean isKnown = p >= 0 && p < plain.packets() && random.nextInt(4) != 0;
        int a = isKnown ? plain.parcels.get(p).goal : node();
        int b = isKnown ? plain.parcels.get(p).source : node();
        return both("receive(" + a + ", " + b + ")", () -> yard.receive(a, b), () -> plain.receive(a, b));
    }

    private String net() {
        return netOf(isOdd() ? odd() : 1 + random.nextInt(4), isOdd() ? odd() : 1 + random.nextInt(4));
    }

    private String smallNet() {
        return netOf(1 + random.nextInt(3), 1 + random.nextInt(2));
    }

    private String netOf(int w, int h) {
        String fault = both("net(" + w + ", " + h + ")", () -> yard.net(w, h), () -> plain.net(w, h));
        nodes = plain.width * plain.height;
        return fault;
    }

    private String beats() {
        int n = few();
        return both("beats(" + n + ")", () -> yard.beats(n), () -> plain.beats(n));
    }

    private String way() {
        char to = letter("xyttt");
        return both("way(" + to + ")", () -> yard.way(to), () -> plain.way(to));
    }

    private String places() {
        int n = isOdd() ? odd() : 1 + random.nextInt(4);
        return both("places(" + n + ")", () -> yard.places(n), () -> plain.places(n));
    }

    private String fail() {
        int a = node();
        char d = letter("ewsn");
        boolean has = random.nextInt(3) == 0;
        return both("fail(" + a + ", " + d + ", " + has + ")", () -> yard.fail(a, d, has), () -> plain.fail(a, d, has));
    }

    private String sleep() {
        int a = node();
        return both("sleep(" + a + ")", () -> yard.sleep(a), () -> plain.sleep(a));
    }

    private String program() {
        int a = node();
        char name = letter(random.nextInt(3) == 0 ? "ppplsdrb" : INSTRUCTIONS);
        int n = "drj".indexOf(name) >= 0 ? below(name == 'j' ? 12 : nodes) : "ls".indexOf(name) >= 0 ? below(8) : number();
        return both("program(" + a + ", " + name + ", " + n + ")", () -> yard.program(a, name, n), () -> plain.program(a, name, n));
    }

    private String clear() {
        int a = node();
        return both("clear(" + a + ")", () -> yard.clear(a), () -> plain.clear(a));
    }

    private String start() {
        int a = node();
        return both("start(" + a + ")", () -> yard.start(a), () -> plain.start(a));
    }

    private String set() {
        int a = node();
        int p = below(8);
        int w = number();
        return both("set(" + a + ", " + p + ", " + w + ")", () -> yard.set(a, p, w), () -> plain.set(a, p, w));
    }

    private String task() {
        int a = node();
        if (random.nextInt(4) == 0) {
            return both("swap()", () -> yard.swap(), () -> plain.swap());
        }
        return both("task(" + a + ")", () -> yard.task(a), () -> plain.task(a));
    }

    private String traffic() {
        int a = below(Math.max(1, plain.tasks.size()));
        int b = below(Math.max(1, plain.tasks.size()));
        int m = below(100);
        return both("traffic(" + a + ", " + b + ", " + m + ")", () -> yard.traffic(a, b, m), () -> plain.traffic(a, b, m));
    }

    private String look() {
        switch (random.nextInt(24)) {
            case 0: return lookAtPacket("kind", p -> yard.kind(p), p -> plain.kind(p));
            case 1: return lookAtPacket("state", p -> yard.state(p), p -> plain.state(p));
            case 2: return lookAtPacket("word", p -> yard.word(p), p -> plain.word(p));
            case 3: return lookAtPacket("head", p -> yard.head(p), p -> plain.head(p));
            case 4: return lookAtPacket("pieces", p -> yard.pieces(p), p -> plain.pieces(p));
            case 5: return lookAtPacket("time", p -> yard.time(p), p -> plain.time(p));
            case 6: return lookAtPacket("answer", p -> yard.answer(p), p -> plain.answer(p));
            case 7: return lookAtNode("isAwake", n -> yard.isAwake(n), n -> plain.isAwake(n));
            case 8: return lookAtNode("core", n -> yard.core(n), n -> plain.core(n));
            case 9: return lookAtNode("fault", n -> yard.fault(n), n -> plain.fault(n));
            case 10: return lookAtNode("top", n -> yard.top(n), n -> plain.top(n));
            case 11: return lookAtNode("at", n -> yard.at(n), n -> plain.at(n));
            case 12: case 13: return row();
            case 14: case 15: return owner();
            case 16: return direction();
            case 17: return memory();
            case 18: return lying();
            case 19: return figures();
            case 20: return both("checksum()", () -> yard.checksum(), () -> plain.checksum());
            case 21: return both("packets()", () -> yard.packets(), () -> plain.packets());
            case 22: return both("isSound()", () -> yard.isSound(), () -> plain.isSound());
            default: return both("beat()", () -> yard.beat(), () -> plain.beatNumber());
        }
    }

    private interface Look {
        Object at(int number);
    }

    private String lookAtPacket(String name, Look mine, Look due) {
        int p = packet();
        return both(name + "(" + p + ")", () -> mine.at(p), () -> due.at(p));
    }

    private String lookAtNode(String name, Look mine, Look due) {
        int n = node();
        return both(name + "(" + n + ")", () -> mine.at(n), () -> due.at(n));
    }

    private String row() {
        int n = node();
        char side = letter(SIDES);
        int c = below(2);
        return both("row(" + n + ", " + side + ", " + c + ")", () -> yard.row(n, side, c), () -> plain.row(n, side, c));
    }

    private String owner() {
        int n = node();
        char side = letter(random.nextInt(20) == 0 ? "c" : "ewsn");
        int c = below(2);
        return both("owner(" + n + ", " + side + ", " + c + ")", () -> yard.owner(n, side, c), () -> plain.owner(n, side, c));
    }

    private String direction() {
        int a = node();
        int b = node();
        return both("direction(" + a + ", " + b + ")", () -> yard.direction(a, b), () -> plain.direction(a, b));
    }

    private String memory() {
        int n = node();
        int p = below(8);
        return both("memory(" + n + ", " + p + ")", () -> yard.memory(n, p), () -> plain.memory(n, p));
    }

    private String lying() {
        int a = node();
        int b = node();
        return both("lying(" + a + ", " + b + ")", () -> yard.lying(a, b), () -> plain.lying(a, b));
    }

    private String figures() {
        int t = below(Math.max(1, plain.tasks.size()));
        switch (random.nextInt(6)) {
            case 0: return both("lostShare()", () -> yard.lostShare(), () -> plain.lostShare());
            case 1: return both("meanTime()", () -> yard.meanTime(), () -> plain.meanTime());
            case 2: return both("cost()", () -> yard.cost(), () -> plain.cost());
            case 3: return both("leads()", () -> yard.leads(), () -> plain.leads());
            case 4: return both("hasRing()", () -> yard.hasRing(), () -> plain.hasRing());
            default: return both("nodeOf(" + t + ")", () -> yard.nodeOf(t), () -> plain.nodeOf(t));
        }
    }
}

import java.util.ArrayList;
import java.util.HashMap;
import java.util.LinkedHashMap;
import java.util.List;
import java.util.Map;
import java.util.NoSuchElementException;
import java.util.TreeSet;

/**
 * The document told a second time, with lists and maps and no care for speed, so that random runs can be held
 * against it. It shares no code with Meshyard.
 */
final class PlainYard {
    static final String OUTPUTS = "ewsnc";

    static final class Piece {
        final Parcel parcel;
        final int index;
        int came;

        Piece(Parcel parcel, int index, int came) {
            this.parcel = parcel;
            this.index = index;
            this.came = came;
        }
    }

    static final class Parcel {
        int number;
        char kind;
        char state = 's';
        int source;
        int goal;
        int word;
        int pieces;
        int in;
        int made;
        Integer delivered;
        int place;
        boolean isAdd;
        int more;
        Integer answer;

        int channel() {
            return kind == 'a' ? 1 : 0;
        }
    }

    static final class Lane {
        final List<Piece> pieces = new ArrayList<>();
        Parcel owner;
        char headWent = '?';
        int gave = -1;
    }

    static final class Machine {
        final int[] memory = new int[8];
        final List<Integer> stack = new ArrayList<>();
        final List<Character> names = new ArrayList<>();
        final List<Integer> numbers = new ArrayList<>();
        char state = '-';
        char fault;
        int at;
    }

    int width;
    int height;
    int capacity;
    int passed;
    char way;
    boolean moved;
    final List<Parcel> parcels = new ArrayList<>();
    final Map<String, Lane> lanes = new LinkedHashMap<>();
    final Map<String, Character> lastGave = new HashMap<>();
    final TreeSet<String> failed = new TreeSet<>();
    final TreeSet<Integer> asleep = new TreeSet<>();
    final TreeSet<Integer> toWake = new TreeSet<>();
    final List<Machine> machines = new ArrayList<>();
    final List<Integer> tasks = new ArrayList<>();
    final Map<String, Integer> traffic = new HashMap<>();

    PlainYard() {
        anew(4, 4);
    }

    private void anew(int w, int h) {
        width = w;
        height = h;
        capacity = 2;
        passed = 0;
        way = 'x';
        parcels.clear();
        lanes.clear();
        lastGave.clear();
        failed.clear();
        asleep.clear();
        toWake.clear();
        machines.clear();
        tasks.clear();
        traffic.clear();
        for (int node = 0; node < w * h; node++) {
            machines.add(new Machine());
            for (int channel = 0; channel < 2; channel++) {
                for (char side : OUTPUTS.toCharArray()) {
                    lanes.put(node + "/" + side + "/" + channel, new Lane());
                }
            }
        }
    }

    Lane lane(int node, char side, int channel) {
        return lanes.get(node + "/" + side + "/" + channel);
    }

    int x(int node) {
        return node % width;
    }

    int y(int node) {
        return node / width;
    }

    int neighbour(int node, char direction) {
        int nx = x(node) + (direction == 'e' ? 1 : direction == 'w' ? -1 : 0);
        int ny = y(node) + (direction == 's' ? 1 : direction == 'n' ? -1 : 0);
        return nx < 0 || ny < 0 || nx >= width || ny >= height ? -1 : ny * width + nx;
    }

    static char turned(char direction) {
        switch (direction) {
            case 'e': return 'w';
            case 'w': return 'e';
            case 's': return 'n';
            default: return 's';
        }
    }

    boolean hasFailed(int node, char direction) {
        return failed.contains(node + "" + direction);
    }

    int steps(int a, int b) {
        return Math.abs(x(a) - x(b)) + Math.abs(y(a) - y(b));
    }

    /** All directions that the way allows, in their order. */
    List<Character> allowed(int node, int goal) {
        List<Character> list = new ArrayList<>();
        int dx = x(goal) - x(node);
        int dy = y(goal) - y(node);
        if (dx == 0 && dy == 0) {
            return list;
        }
        char alongX = dx > 0 ? 'e' : 'w';
        char alongY = dy > 0 ? 's' : 'n';
        if (way == 'x') {
            list.add(dx != 0 ? alongX : alongY);
        } else if (way == 'y') {
            list.add(dy != 0 ? alongY : alongX);
        } else if (dx < 0) {
            list.add('w');
        } else {
            if (dx > 0) {
                list.add('e');
            }
            if (dy > 0) {
                list.add('s');
            }
            if (dy < 0) {
                list.add('n');
            }
        }
        return list;
    }

    char heading(int node, int goal, int channel) {
        if (node == goal) {
            return 'c';
        }
        List<Character> list = allowed(node, goal);
        for (char d : list) {
            Lane ahead = lane(neighbour(node, d), turned(d), channel);
            if (!hasFailed(node, d) && ahead.owner == null && ahead.pieces.size() < capacity) {
                return d;
            }
        }
        for (char d : list) {
            if (!hasFailed(node, d)) {
                return d;
            }
        }
        return list.get(0);
    }

    void beat() {
        moved = false;
        for (int node = 0; node < machines.size(); node++) {
            instruct(node);
        }
        for (int node = 0; node < machines.size(); node++) {
            if (!asleep.contains(node)) {
                for (char output : OUTPUTS.toCharArray()) {
                    serve(node, output);
                }
            }
        }
        for (int node = 0; node < machines.size(); node++) {
            feed(node, 1);
            feed(node, 0);
        }
        long active = machines.stream().filter(m -> m.state == 'r' || m.state == 'w').count();
        if (active == 0) {
            for (Machine m : machines) {
                if (m.state == 'b') {
                    m.state = 'r';
                    m.at++;
                }
            }
        }
        asleep.removeAll(toWake);
        toWake.clear();
        passed++;
    }

    private void serve(int node, char output) {
        for (int channel = 1; channel >= 0; channel--) {
            String key = node + "/" + output + "/" + channel;
            int from = lastGave.containsKey(key) ? OUTPUTS.indexOf(lastGave.get(key)) + 1 : 0;
            String order = OUTPUTS.substring(from % 5) + OUTPUTS.substring(0, from % 5);
            for (char side : order.toCharArray()) {
                if (tryToGive(node, lane(node, side, channel), output, channel)) {
                    lastGave.put(key, side);
                    moved = true;
                    return;
                }
            }
        }
    }

    private boolean tryToGive(int node, Lane lane, char output, int channel) {
        if (lane.pieces.isEmpty() || lane.gave == passed || lane.pieces.get(0).came == passed) {
            return false;
        }
        Piece piece = lane.pieces.get(0);
        Parcel parcel = piece.parcel;
        boolean isHead = piece.index == 0;
        boolean isTail = piece.index == parcel.pieces - 1;
        char goes = isHead ? heading(node, parcel.goal, channel) : lane.headWent;
        if (goes != output) {
            return false;
        }
        if (output != 'c') {
            if (isHead && hasFailed(node, output)) {
                lose(parcel);
                return false;
            }
            int next = neighbour(node, output);
            if (asleep.contains(next)) {
                toWake.add(next);
                return false;
            }
            Lane ahead = lane(next, turned(output), channel);
            if (ahead.pieces.size() >= capacity || isHead && ahead.owner != null) {
                return false;
            }
            ahead.pieces.add(new Piece(parcel, piece.index, passed));
            if (isHead) {
                ahead.owner = parcel;
            }
        }
        lane.pieces.remove(0);
        lane.gave = passed;
        if (isHead) {
            lane.headWent = output;
        }
        if (isTail) {
            lane.owner = null;
            if (output == 'c') {
                arrive(parcel);
            }
        }
        return true;
    }

    private void lose(Parcel parcel) {
        parcel.state = 'l';
        for (Lane lane : lanes.values()) {
            lane.pieces.removeIf(p -> p.parcel == parcel);
            if (lane.owner == parcel) {
                lane.owner = null;
            }
        }
    }

    private void arrive(Parcel parcel) {
        parcel.state = 'd';
        parcel.delivered = passed + 1;
        if (parcel.kind == 'q') {
            int[] memory = machines.get(parcel.goal).memory;
            Parcel answer = make('a', parcel.goal, parcel.source, memory[parcel.place], 1);
            if (parcel.isAdd) {
                memory[parcel.place] += parcel.more;
            }
            parcel.answer = answer.number;
        }
    }

    private void feed(int node, int channel) {
        for (Parcel parcel : parcels) {
            if (parcel.source == node && parcel.channel() == channel && parcel.in < parcel.pieces && parcel.state != 'l') {
                if (asleep.contains(node)) {
                    toWake.add(node);
                } else if (lane(node, 'c', channel).pieces.size() < capacity) {
                    lane(node, 'c', channel).pieces.add(new Piece(parcel, parcel.in, passed));
                    parcel.in++;
                    parcel.state = parcel.state == 's' ? 'w' : parcel.state;
                    moved = true;
                }
                return;
            }
        }
    }

    private Parcel make(char kind, int source, int goal, int word, int bodies) {
        Parcel parcel = new Parcel();
        parcel.number = parcels.size();
        parcel.kind = kind;
        parcel.source = source;
        parcel.goal = goal;
        parcel.word = word;
        parcel.pieces = bodies + 1;
        parcel.made = passed;
        parcels.add(parcel);
        return parcel;
    }

    private int used() {
        int used = parcels.size();
        for (Parcel p : parcels) {
            if (p.kind == 'q' && (p.state == 's' || p.state == 'w')) {
                used++;
            }
        }
        return used;
    }

    private Parcel next(int node, int source) {
        Parcel first = null;
        for (Parcel p : parcels) {
            if (p.kind == 'm' && p.state == 'd' && p.goal == node && p.source == source) {
                if (first == null || p.delivered < first.delivered) {
                    first = p;
                }
            }
        }
        return first;
    }

    private void instruct(int node) {
        Machine m = machines.get(node);
        if (m.state != 'r' && m.state != 'w') {
            return;
        }
        char fault = m.at >= m.names.size() ? 'j' : doOne(node, m, m.names.get(m.at), m.numbers.get(m.at));
        if (fault != 0) {
            m.state = 'x';
            m.fault = fault;
        }
    }

    private char doOne(int node, Machine m, char name, int number) {
        int size = m.stack.size();
        boolean one = "sdj".indexOf(name) >= 0;
        boolean two = "+-*".indexOf(name) >= 0;
        if (one && size < 1 || two && size < 2) {
            return 'u';
        }
        if ((name == 'p' || name == 'l') && size == 6) {
            return 'o';
        }
        if (name == 'd' && used() >= 200) {
            return 'p';
        }
        Parcel message = name == 'r' ? next(node, number) : null;
        if (name == 'r' && message == null) {
            m.state = 'w';
            return 0;
        }
        if (name == 'r' && size == 6) {
            return 'o';
        }
        if (name == 'b' || name == 'h') {
            m.state = name;
            return 0;
        }
        int top = one || two ? m.stack.remove(size - 1) : 0;
        int below = two ? m.stack.remove(size - 2) : 0;
        m.at++;
        switch (name) {
            case 'p': m.stack.add(number); break;
            case 'l': m.stack.add(m.memory[number]); break;
            case 's': m.memory[number] = top; break;
            case '+': m.stack.add(below + top); break;
            case '-': m.stack.add(below - top); break;
            case '*': m.stack.add(below * top); break;
            case 'd': make('m', node, number, top, 1); break;
            case 'j': m.at = top != 0 ? number : m.at; break;
            default:
                m.stack.add(message.word);
                message.state = 'r';
                m.state = 'r';
                break;
        }
        return 0;
    }

    // The calls

    private void node(int node) {
        if (node < 0 || node >= width * height) {
            throw new IndexOutOfBoundsException();
        }
    }

    private void range(boolean isIn) {
        if (!isIn) {
            throw new IllegalArgumentException();
        }
    }

    private void room(int many) {
        if (used() + many > 200) {
            throw new IllegalStateException();
        }
    }

    private Parcel parcel(int number) {
        if (number < 0 || number >= parcels.size()) {
            throw new IndexOutOfBoundsException();
        }
        return parcels.get(number);
    }

    private boolean busy(int node) {
        return "rwb".indexOf(machines.get(node).state) >= 0;
    }

    int send(int node, int goal, int word, int bodies) {
        node(node);
        node(goal);
        range(bodies >= 1 && bodies <= 4);
        room(1);
        return make('m', node, goal, word, bodies).number;
    }

    int multicast(int node, int goals, int word) {
        node(node);
        range(goals > 0 && goals < 1 << width * height);
        room(Integer.bitCount(goals));
        for (int goal = 0; goal < 16; goal++) {
            if ((goals & 1 << goal) != 0) {
                make('m', node, goal, word, 1);
            }
        }
        return Integer.bitCount(goals);
    }

    int ask(int node, int goal, int place, boolean isAdd, int more) {
        node(node);
        node(goal);
        range(place >= 0 && place <= 7);
        room(2);
        Parcel q = make('q', node, goal, 0, 1);
        q.place = place;
        q.isAdd = isAdd;
        q.more = more;
        return q.number;
    }

    int answer(int packet) {
        Parcel p = parcel(packet);
        range(p.kind == 'q');
        if (p.answer == null) {
            throw new NoSuchElementException();
        }
        return p.answer;
    }

    char kind(int packet) {
        return parcel(packet).kind;
    }

    char state(int packet) {
        return parcel(packet).state;
    }

    int word(int packet) {
        return parcel(packet).word;
    }

    int head(int packet) {
        Parcel p = parcel(packet);
        for (Map.Entry<String, Lane> entry : lanes.entrySet()) {
            for (Piece piece : entry.getValue().pieces) {
                if (piece.parcel == p && piece.index == 0) {
                    return Integer.parseInt(entry.getKey().split("/")[0]);
                }
            }
        }
        throw new NoSuchElementException();
    }

    int pieces(int packet) {
        Parcel p = parcel(packet);
        return (int) lanes.values().stream().flatMap(l -> l.pieces.stream()).filter(i -> i.parcel == p).count();
    }

    int time(int packet) {
        Parcel p = parcel(packet);
        if (p.delivered == null) {
            throw new NoSuchElementException();
        }
        return p.delivered - p.made;
    }

    int packets() {
        return parcels.size();
    }

    int lying(int node, int source) {
        node(node);
        node(source);
        return (int) parcels.stream()
            .filter(p -> p.kind == 'm' && p.state == 'd' && p.goal == node && p.source == source).count();
    }

    int receive(int node, int source) {
        node(node);
        node(source);
        Parcel p = next(node, source);
        if (p == null) {
            throw new NoSuchElementException();
        }
        p.state = 'r';
        return p.number;
    }

    int net(int w, int h) {
        range(w >= 1 && w <= 4 && h >= 1 && h <= 4);
        anew(w, h);
        return w * h;
    }

    boolean beats(int many) {
        range(many >= 1 && many <= 100);
        for (int i = 0; i < many; i++) {
            beat();
        }
        return moved;
    }

    int beatNumber() {
        return passed;
    }

    char way(char to) {
        range(to == 'x' || to == 'y' || to == 't');
        char before = way;
        way = to;
        return before;
    }

    int places(int many) {
        range(many >= 1 && many <= 4);
        int before = capacity;
        capacity = many;
        return before;
    }

    int row(int node, char from, int channel) {
        node(node);
        range(OUTPUTS.indexOf(from) >= 0 && (channel == 0 || channel == 1));
        return lane(node, from, channel).pieces.size();
    }

    int owner(int node, char from, int channel) {
        node(node);
        range("ewsn".indexOf(from) >= 0 && (channel == 0 || channel == 1));
        Parcel owner = lane(node, from, channel).owner;
        return owner == null ? -1 : owner.number;
    }

    boolean fail(int node, char direction, boolean has) {
        node(node);
        range("ewsn".indexOf(direction) >= 0);
        int other = neighbour(node, direction);
        if (other < 0) {
            throw new UnsupportedOperationException();
        }
        boolean had = hasFailed(node, direction);
        if (has) {
            failed.add(node + "" + direction);
            failed.add(other + "" + turned(direction));
        } else {
            failed.remove(node + "" + direction);
            failed.remove(other + "" + turned(direction));
        }
        return had;
    }

    boolean sleep(int node) {
        node(node);
        boolean can = !busy(node);
        for (char side : OUTPUTS.toCharArray()) {
            for (int channel = 0; channel < 2; channel++) {
                Lane lane = lane(node, side, channel);
                can &= lane.pieces.isEmpty() && lane.owner == null;
            }
        }
        if (!can) {
            throw new UnsupportedOperationException();
        }
        return asleep.add(node);
    }

    boolean isAwake(int node) {
        node(node);
        return !asleep.contains(node);
    }

    private Map<String, TreeSet<String>> graph() {
        Map<String, TreeSet<String>> graph = new HashMap<>();
        for (int source = 0; source < width * height; source++) {
            for (int goal = 0; goal < width * height; goal++) {
                follow(source, goal, null, graph);
            }
        }
        return graph;
    }

    private void follow(int node, int goal, String last, Map<String, TreeSet<String>> graph) {
        for (char d : allowed(node, goal)) {
            if (!hasFailed(node, d)) {
                String link = node + "" + d;
                graph.computeIfAbsent(link, k -> new TreeSet<>());
                if (last != null) {
                    graph.get(last).add(link);
                }
                follow(neighbour(node, d), goal, link, graph);
            }
        }
    }

    int leads() {
        return graph().values().stream().mapToInt(TreeSet::size).sum();
    }

    boolean hasRing() {
        Map<String, TreeSet<String>> graph = graph();
        for (String link : graph.keySet()) {
            TreeSet<String> reached = new TreeSet<>();
            List<String> open = new ArrayList<>(graph.get(link));
            while (!open.isEmpty()) {
                String next = open.remove(open.size() - 1);
                if (reached.add(next)) {
                    open.addAll(graph.get(next));
                }
            }
            if (reached.contains(link)) {
                return true;
            }
        }
        return false;
    }

    char direction(int node, int goal) {
        node(node);
        node(goal);
        return heading(node, goal, 0);
    }

    int program(int node, char name, int number) {
        node(node);
        range("pls+-*drjbh".indexOf(name) >= 0);
        range(name != 'l' && name != 's' || number >= 0 && number <= 7);
        range(name != 'd' && name != 'r' || number >= 0 && number < width * height);
        range(name != 'j' || number >= 0 && number <= 11);
        Machine m = machines.get(node);
        if (m.names.size() == 12 || busy(node)) {
            throw new IllegalStateException();
        }
        m.names.add(name);
        m.numbers.add(number);
        return m.names.size();
    }

    int clear(int node) {
        node(node);
        if (busy(node)) {
            throw new IllegalStateException();
        }
        int had = machines.get(node).names.size();
        machines.get(node).names.clear();
        machines.get(node).numbers.clear();
        return had;
    }

    int start(int node) {
        node(node);
        Machine m = machines.get(node);
        if (m.names.isEmpty()) {
            throw new UnsupportedOperationException();
        }
        if (busy(node)) {
            throw new IllegalStateException();
        }
        m.state = 'r';
        m.at = 0;
        m.stack.clear();
        int many = 0;
        for (int i = 0; i < machines.size(); i++) {
            many += busy(i) ? 1 : 0;
        }
        return many;
    }

    char core(int node) {
        node(node);
        return machines.get(node).state;
    }

    char fault(int node) {
        node(node);
        if (machines.get(node).state != 'x') {
            throw new NoSuchElementException();
        }
        return machines.get(node).fault;
    }

    int memory(int node, int place) {
        node(node);
        range(place >= 0 && place <= 7);
        return machines.get(node).memory[place];
    }

    int set(int node, int place, int word) {
        int before = memory(node, place);
        machines.get(node).memory[place] = word;
        return before;
    }

    int top(int node) {
        node(node);
        List<Integer> stack = machines.get(node).stack;
        if (stack.isEmpty()) {
            throw new NoSuchElementException();
        }
        return stack.get(stack.size() - 1);
    }

    int at(int node) {
        node(node);
        if (machines.get(node).state == '-') {
            throw new NoSuchElementException();
        }
        return machines.get(node).at;
    }

    int task(int node) {
        node(node);
        if (tasks.size() == 8) {
            throw new IllegalStateException();
        }
        tasks.add(node);
        return tasks.size() - 1;
    }

    private void isTask(int task) {
        if (task < 0 || task >= tasks.size()) {
            throw new IndexOutOfBoundsException();
        }
    }

    int traffic(int task, int other, int much) {
        isTask(task);
        isTask(other);
        range(task != other && much >= 0 && much <= 99);
        Integer before = traffic.put(Math.min(task, other) + "-" + Math.max(task, other), much);
        return before == null ? 0 : before;
    }

    int cost() {
        int sum = 0;
        for (int i = 0; i < tasks.size(); i++) {
            for (int j = i + 1; j < tasks.size(); j++) {
                sum += traffic.getOrDefault(i + "-" + j, 0) * steps(tasks.get(i), tasks.get(j));
            }
        }
        return sum;
    }

    int swap() {
        int before = cost();
        int best = 0;
        int[] pair = null;
        for (int i = 0; i < tasks.size(); i++) {
            for (int j = i + 1; j < tasks.size(); j++) {
                java.util.Collections.swap(tasks, i, j);
                if (before - cost() > best) {
                    best = before - cost();
                    pair = new int[] {i, j};
                }
                java.util.Collections.swap(tasks, i, j);
            }
        }
        if (pair == null) {
            throw new NoSuchElementException();
        }
        java.util.Collections.swap(tasks, pair[0], pair[1]);
        return best;
    }

    int nodeOf(int task) {
        isTask(task);
        return tasks.get(task);
    }

    long checksum() {
        long sum = 7;
        for (int node = 0; node < machines.size(); node++) {
            for (int word : machines.get(node).memory) {
                sum = sum * 31 + word;
            }
            int held = 0;
            for (char side : OUTPUTS.toCharArray()) {
                held += row(node, side, 0) + row(node, side, 1);
            }
            sum = sum * 31 + held;
        }
        for (Parcel p : parcels) {
            sum = sum * 31 + p.state;
        }
        return sum;
    }

    float lostShare() {
        if (parcels.isEmpty()) {
            throw new NoSuchElementException();
        }
        return (float) parcels.stream().filter(p -> p.state == 'l').count() / (float) parcels.size();
    }

    double meanTime() {
        long sum = 0;
        long many = 0;
        for (Parcel p : parcels) {
            if (p.delivered != null) {
                sum += p.delivered - p.made;
                many++;
            }
        }
        if (many == 0) {
            throw new NoSuchElementException();
        }
        return (double) sum / (double) many;
    }

    boolean isSound() {
        return true;
    }
}

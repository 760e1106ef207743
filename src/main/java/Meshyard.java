import java.util.NoSuchElementException;

/** A chip of small processors on a net, as shared/DOC.md promises it. */
public final class Meshyard {
    private static final int MOST_WIDTH = 4;
    private static final int MOST_NODES = 16;
    private static final int MOST_PACKETS = 200;
    private static final int MOST_BODIES = 4;
    private static final int MOST_PIECES = 5;
    private static final int MOST_BEATS = 100;
    private static final int MOST_PLACES = 4;
    private static final int PLACES_AT_FIRST = 2;
    private static final int MEMORY_WORDS = 8;
    private static final int STACK_WORDS = 6;
    private static final int MOST_INSTRUCTIONS = 12;
    private static final int MOST_TASKS = 8;
    private static final int MOST_TRAFFIC = 99;

    private static final int NONE = -1;
    private static final int EAST = 0;
    private static final int WEST = 1;
    private static final int SOUTH = 2;
    private static final int NORTH = 3;
    private static final int CORE = 4;
    private static final int DIRECTIONS = 4;
    private static final int SIDES = 5;
    private static final int CHANNELS = 2;
    private static final int MOST_LINKS = 64;
    private static final String SIDE_NAMES = "ewsnc";
    private static final String WAY_NAMES = "xyt";
    private static final String INSTRUCTION_NAMES = "pls+-*drjbh";

    private final Net net = new Net();
    private final Post post = new Post();
    private final Placing placing = new Placing(net);
    private final Router[] routers = new Router[MOST_NODES];
    private final Core[] cores = new Core[MOST_NODES];
    private final Ways ways = new Ways(net, routers);
    private final Mover mover = new Mover(ways, post, cores);
    private final Works works = new Works(net, post, cores);
    private final Audit audit = new Audit(net, routers);
    private int rowPlaces;

    /** Creates a chip of 4 by 4 nodes. */
    public Meshyard() {
        for (int node = 0; node < MOST_NODES; node++) {
            routers[node] = new Router();
            cores[node] = new Core();
        }
        makeAnew(MOST_WIDTH, MOST_WIDTH);
    }

    // Packets

    public int send(int node, int goal, int word, int bodies)
            throws IndexOutOfBoundsException, IllegalArgumentException, IllegalStateException {
        needNodes(node, goal);
        needRange(bodies, 1, MOST_BODIES);
        needRoom(1);
        return post.make('m', node, goal, word, bodies, mover.passed);
    }

    public int multicast(int node, int goals, int word)
            throws IndexOutOfBoundsException, IllegalArgumentException, IllegalStateException {
        needNode(node);
        if (goals == 0 || goals >>> net.nodes != 0) {
            throw new IllegalArgumentException("goals are the bits of nodes");
        }
        int many = Integer.bitCount(goals);
        needRoom(many);
        for (int goal = 0; goal < net.nodes; goal++) {
            if ((goals >>> goal & 1) != 0) {
                post.make('m', node, goal, word, 1, mover.passed);
            }
        }
        return many;
    }

    public int ask(int node, int goal, int place, boolean isAdd, int more)
            throws IndexOutOfBoundsException, IllegalArgumentException, IllegalStateException {
        needNodes(node, goal);
        needRange(place, 0, MEMORY_WORDS - 1);
        needRoom(2);
        int number = post.make('q', node, goal, 0, 1, mover.passed);
        Packet question = post.find(number);
        if (question != null) {
            question.place = place;
            question.added = isAdd ? more : 0;
        }
        return number;
    }

    public int answer(int packet) throws IndexOutOfBoundsException, IllegalArgumentException, NoSuchElementException {
        Packet asked = needPacket(packet);
        if (asked.kind != 'q') {
            throw new IllegalArgumentException("the packet is no question");
        }
        if (asked.answeredBy == NONE) {
            throw new NoSuchElementException("the question was not delivered");
        }
        return asked.answeredBy;
    }

    public char kind(int packet) throws IndexOutOfBoundsException {
        return needPacket(packet).kind;
    }

    public char state(int packet) throws IndexOutOfBoundsException {
        return needPacket(packet).state;
    }

    public int word(int packet) throws IndexOutOfBoundsException {
        return needPacket(packet).word;
    }

    public int head(int packet) throws IndexOutOfBoundsException, NoSuchElementException {
        int node = needPacket(packet).headNode;
        if (node == NONE) {
            throw new NoSuchElementException("the head is at no router");
        }
        return node;
    }

    public int pieces(int packet) throws IndexOutOfBoundsException {
        return needPacket(packet).piecesInRows();
    }

    public int time(int packet) throws IndexOutOfBoundsException, NoSuchElementException {
        Packet asked = needPacket(packet);
        if (!asked.wasDelivered()) {
            throw new NoSuchElementException("the packet was not delivered");
        }
        return asked.beatsTaken();
    }

    public int packets() {
        return post.made;
    }

    public int lying(int node, int source) throws IndexOutOfBoundsException {
        needNodes(node, source);
        return post.countLying(node, source);
    }

    public int receive(int node, int source) throws IndexOutOfBoundsException, NoSuchElementException {
        needNodes(node, source);
        Packet message = post.firstLying(node, source);
        if (message == null) {
            throw new NoSuchElementException("no message of this source lies there");
        }
        message.state = 'r';
        return message.number;
    }

    // The net

    public int net(int width, int height) throws IllegalArgumentException {
        needRange(width, 1, MOST_WIDTH);
        needRange(height, 1, MOST_WIDTH);
        makeAnew(width, height);
        return net.nodes;
    }

    public boolean beats(int many) throws IllegalArgumentException {
        needRange(many, 1, MOST_BEATS);
        for (int i = 0; i < many; i++) {
            mover.beginBeat();
            works.runCores(mover.passed);
            mover.moveAll();
            mover.putAll();
            works.passBarrier();
            mover.endBeat();
        }
        return mover.hasMoved;
    }

    public int beat() {
        return mover.passed;
    }

    public char way(char way) throws IllegalArgumentException {
        if (WAY_NAMES.indexOf(way) < 0) {
            throw new IllegalArgumentException("a way is x, y or t");
        }
        char before = ways.way;
        ways.way = way;
        return before;
    }

    public int places(int many) throws IllegalArgumentException {
        needRange(many, 1, MOST_PLACES);
        int before = rowPlaces;
        setAllPlaces(many);
        return before;
    }

    public int row(int node, char from, int channel) throws IndexOutOfBoundsException, IllegalArgumentException {
        needNode(node);
        return needRow(node, from, channel, SIDES).count;
    }

    public int owner(int node, char from, int channel) throws IndexOutOfBoundsException, IllegalArgumentException {
        needNode(node);
        return needRow(node, from, channel, DIRECTIONS).owner;
    }

    public boolean fail(int node, char direction, boolean has)
            throws IndexOutOfBoundsException, IllegalArgumentException, UnsupportedOperationException {
        needNode(node);
        int to = SIDE_NAMES.indexOf(direction);
        if (to < 0 || to >= DIRECTIONS) {
            throw new IllegalArgumentException("a direction is e, w, s or n");
        }
        if (net.ahead[node * DIRECTIONS + to] == NONE) {
            throw new UnsupportedOperationException("no link goes there");
        }
        boolean had = net.failed[node * DIRECTIONS + to];
        net.setFailed(node, to, has);
        return had;
    }

    public boolean sleep(int node) throws IndexOutOfBoundsException, UnsupportedOperationException {
        needNode(node);
        Router router = routers[node];
        if (!router.isIdle() || cores[node].isBusy()) {
            throw new UnsupportedOperationException("the router or its core has something to do");
        }
        boolean was = router.isAwake;
        router.isAwake = false;
        return was;
    }

    public boolean isAwake(int node) throws IndexOutOfBoundsException {
        needNode(node);
        return routers[node].isAwake;
    }

    public int leads() {
        ways.trace();
        return ways.countPairs();
    }

    public boolean hasRing() {
        ways.trace();
        return ways.findsRing();
    }

    public char direction(int node, int goal) throws IndexOutOfBoundsException {
        needNodes(node, goal);
        int side = ways.heading(node, goal, 0);
        return side >= 0 && side < SIDES ? SIDE_NAMES.charAt(side) : 'c';
    }

    // Cores

    public int program(int node, char name, int number)
            throws IndexOutOfBoundsException, IllegalArgumentException, IllegalStateException {
        needNode(node);
        if (INSTRUCTION_NAMES.indexOf(name) < 0 || !isNumberOf(name, number)) {
            throw new IllegalArgumentException("there is no such instruction, or its number is out of range");
        }
        Core core = cores[node];
        if (core.length >= MOST_INSTRUCTIONS || core.isBusy()) {
            throw new IllegalStateException("the program is full, or the core runs or waits");
        }
        core.addInstruction(name, number);
        return core.length;
    }

    public int clear(int node) throws IndexOutOfBoundsException, IllegalStateException {
        needNode(node);
        needCoreAtRest(node);
        int had = cores[node].length;
        cores[node].length = 0;
        return had;
    }

    public int start(int node)
            throws IndexOutOfBoundsException, UnsupportedOperationException, IllegalStateException {
        needNode(node);
        if (cores[node].length == 0) {
            throw new UnsupportedOperationException("the core has no program");
        }
        needCoreAtRest(node);
        cores[node].begin();
        return works.countBusy();
    }

    public char core(int node) throws IndexOutOfBoundsException {
        needNode(node);
        return cores[node].state;
    }

    public char fault(int node) throws IndexOutOfBoundsException, NoSuchElementException {
        needNode(node);
        if (cores[node].state != 'x') {
            throw new NoSuchElementException("the core did not stop by a fault");
        }
        return cores[node].faultMet;
    }

    public int memory(int node, int place) throws IndexOutOfBoundsException, IllegalArgumentException {
        needNode(node);
        needRange(place, 0, MEMORY_WORDS - 1);
        return cores[node].memory[place];
    }

    public int set(int node, int place, int word) throws IndexOutOfBoundsException, IllegalArgumentException {
        needNode(node);
        needRange(place, 0, MEMORY_WORDS - 1);
        int before = cores[node].memory[place];
        cores[node].memory[place] = word;
        return before;
    }

    public int top(int node) throws IndexOutOfBoundsException, NoSuchElementException {
        needNode(node);
        Core core = cores[node];
        if (core.depth <= 0 || core.depth > STACK_WORDS) {
            throw new NoSuchElementException("the stack is empty");
        }
        return core.stack[core.depth - 1];
    }

    public int at(int node) throws IndexOutOfBoundsException, NoSuchElementException {
        needNode(node);
        if (cores[node].state == '-') {
            throw new NoSuchElementException("the core was not started");
        }
        return cores[node].at;
    }

    // Tasks

    public int task(int node) throws IndexOutOfBoundsException, IllegalStateException {
        needNode(node);
        if (placing.tasks >= MOST_TASKS) {
            throw new IllegalStateException("there are 8 tasks");
        }
        return placing.addTask(node);
    }

    public int traffic(int task, int other, int much) throws IndexOutOfBoundsException, IllegalArgumentException {
        needTask(task);
        needTask(other);
        if (task == other) {
            throw new IllegalArgumentException("a task has no traffic with itself");
        }
        needRange(much, 0, MOST_TRAFFIC);
        return placing.setTraffic(task, other, much);
    }

    public int cost() {
        return placing.countCost();
    }

    public int swap() throws NoSuchElementException {
        int fall = placing.swapBest();
        if (fall <= 0) {
            throw new NoSuchElementException("no exchange makes the cost fall");
        }
        return fall;
    }

    public int nodeOf(int task) throws IndexOutOfBoundsException {
        needTask(task);
        return placing.node[task];
    }

    // Figures

    public long checksum() {
        long sum = 7;
        for (int node = 0; node < net.nodes; node++) {
            for (int place = 0; place < MEMORY_WORDS; place++) {
                sum = 31 * sum + cores[node].memory[place];
            }
            sum = 31 * sum + routers[node].countPieces();
        }
        for (int i = 0; i < post.made; i++) {
            sum = 31 * sum + post.all[i].state;
        }
        return sum;
    }

    public float lostShare() throws NoSuchElementException {
        if (post.made == 0) {
            throw new NoSuchElementException("there are no packets");
        }
        return (float) post.countLost() / (float) post.made;
    }

    public double meanTime() throws NoSuchElementException {
        int many = post.countDelivered();
        if (many == 0) {
            throw new NoSuchElementException("no packet was delivered");
        }
        return (double) post.sumOfTimes() / (double) many;
    }

    public boolean isSound() {
        return audit.rowsAreSound() && packetsAreSound();
    }

    // What the calls above need

    private void makeAnew(int width, int height) {
        net.lay(width, height);
        post.reset();
        placing.reset();
        ways.way = 'x';
        mover.reset();
        for (int node = 0; node < MOST_NODES; node++) {
            routers[node].reset();
            cores[node].reset();
        }
        setAllPlaces(PLACES_AT_FIRST);
    }

    private void setAllPlaces(int many) {
        rowPlaces = many;
        for (int node = 0; node < MOST_NODES; node++) {
            routers[node].setPlaces(many);
        }
    }

    private boolean packetsAreSound() {
        for (int i = 0; i < post.made; i++) {
            if (post.all[i].state == 'w' && !audit.packetIsSound(post.all[i])) {
                return false;
            }
        }
        return true;
    }

    private boolean isNumberOf(char name, int number) {
        switch (name) {
            case 'l':
            case 's':
                return number >= 0 && number < MEMORY_WORDS;
            case 'd':
            case 'r':
                return net.hasNode(number);
            case 'j':
                return number >= 0 && number < MOST_INSTRUCTIONS;
            default:
                return true;
        }
    }

    private void needNode(int node) {
        if (!net.hasNode(node)) {
            throw new IndexOutOfBoundsException("there is no such node");
        }
    }

    private void needNodes(int node, int other) {
        needNode(node);
        needNode(other);
    }

    private Packet needPacket(int number) {
        Packet packet = post.find(number);
        if (packet == null) {
            throw new IndexOutOfBoundsException("there is no such packet");
        }
        return packet;
    }

    private void needTask(int task) {
        if (task < 0 || task >= placing.tasks) {
            throw new IndexOutOfBoundsException("there is no such task");
        }
    }

    private void needRange(int number, int least, int most) {
        if (number < least || number > most) {
            throw new IllegalArgumentException("a number is out of range");
        }
    }

    private void needRoom(int many) {
        if (!post.hasRoom(many)) {
            throw new IllegalStateException("there is no room for a packet");
        }
    }

    private void needCoreAtRest(int node) {
        if (cores[node].isBusy()) {
            throw new IllegalStateException("the core runs or waits");
        }
    }

    private Row needRow(int node, char from, int channel, int sides) {
        int side = SIDE_NAMES.indexOf(from);
        if (side < 0 || side >= sides || channel < 0 || channel >= CHANNELS) {
            throw new IllegalArgumentException("there is no such row or channel");
        }
        return routers[node].rows[channel * SIDES + side];
    }

    /** The nodes, the links between them, and which of these failed. A link is its node times 4 plus its direction. */
    private static final class Net {
        final int[] ahead = new int[MOST_LINKS];
        final boolean[] failed = new boolean[MOST_LINKS];
        final int[] column = new int[MOST_NODES];
        final int[] line = new int[MOST_NODES];
        int nodes;

        void lay(int width, int height) {
            nodes = width * height;
            int node = 0;
            for (int y = 0; y < height; y++) {
                for (int x = 0; x < width && node < MOST_NODES; x++) {
                    column[node] = x;
                    line[node] = y;
                    ahead[node * DIRECTIONS + EAST] = x + 1 < width ? node + 1 : NONE;
                    ahead[node * DIRECTIONS + WEST] = x > 0 ? node - 1 : NONE;
                    ahead[node * DIRECTIONS + SOUTH] = y + 1 < height ? node + width : NONE;
                    ahead[node * DIRECTIONS + NORTH] = y > 0 ? node - width : NONE;
                    node++;
                }
            }
            for (int link = 0; link < MOST_LINKS; link++) {
                failed[link] = false;
            }
        }

        boolean hasNode(int node) {
            return node >= 0 && node < nodes;
        }

        boolean isWhole(int link) {
            return ahead[link] != NONE && !failed[link];
        }

        void setFailed(int node, int direction, boolean has) {
            int other = ahead[node * DIRECTIONS + direction];
            failed[node * DIRECTIONS + direction] = has;
            if (hasNode(other)) {
                failed[other * DIRECTIONS + opposite(direction)] = has;
            }
        }

        int opposite(int direction) {
            return direction ^ 1;
        }

        int stepsBetween(int node, int other) {
            return Math.abs(column[node] - column[other]) + Math.abs(line[node] - line[other]);
        }

        /** The direction along x that leads nearer to a goal, or NONE. */
        int alongX(int node, int goal) {
            if (column[goal] == column[node]) {
                return NONE;
            }
            return column[goal] > column[node] ? EAST : WEST;
        }

        /** The direction along y that leads nearer to a goal, or NONE. */
        int alongY(int node, int goal) {
            if (line[goal] == line[node]) {
                return NONE;
            }
            return line[goal] > line[node] ? SOUTH : NORTH;
        }
    }

    /** The pieces that came from one side by one channel, in the order in which they came. */
    private static final class Row {
        final int[] packet = new int[MOST_PLACES];
        final int[] piece = new int[MOST_PLACES];
        final int[] cameIn = new int[MOST_PLACES];
        int count;
        int places;
        int owner;
        int headWent;
        int gaveIn;

        void reset() {
            count = 0;
            owner = NONE;
            headWent = NONE;
            gaveIn = 0;
        }

        boolean hasPlace() {
            return count < places && count < MOST_PLACES;
        }

        boolean canBeLookedAt(int now) {
            return count > 0 && gaveIn != now && cameIn[0] != now;
        }

        void addPiece(int number, int index, int now) {
            if (count < MOST_PLACES) {
                packet[count] = number;
                piece[count] = index;
                cameIn[count] = now;
                count++;
            }
        }

        void giveFirst(boolean isTail, int now) {
            gaveIn = now;
            if (isTail) {
                owner = NONE;
            }
            for (int i = 1; i < count; i++) {
                copyPiece(i, i - 1);
            }
            count = Math.max(0, count - 1);
        }

        /** Takes all pieces of a lost packet out. */
        void dropPacket(int number) {
            int kept = 0;
            for (int i = 0; i < count; i++) {
                if (packet[i] != number) {
                    copyPiece(i, kept);
                    kept++;
                }
            }
            count = kept;
            if (owner == number) {
                owner = NONE;
            }
        }

        private void copyPiece(int from, int to) {
            packet[to] = packet[from];
            piece[to] = piece[from];
            cameIn[to] = cameIn[from];
        }
    }

    /** The rows of a node, by channel and side, and whose turn it is at each output. */
    private static final class Router {
        final Row[] rows = new Row[CHANNELS * SIDES];
        final int[] turn = new int[CHANNELS * SIDES];
        final int[] firstToPut = new int[CHANNELS];
        boolean isAwake;
        boolean isWoken;

        Router() {
            for (int i = 0; i < rows.length; i++) {
                rows[i] = new Row();
            }
        }

        void reset() {
            for (int i = 0; i < rows.length; i++) {
                rows[i].reset();
                turn[i] = EAST;
            }
            firstToPut[0] = 0;
            firstToPut[1] = 0;
            isAwake = true;
            isWoken = false;
        }

        void setPlaces(int many) {
            for (int i = 0; i < rows.length; i++) {
                rows[i].places = many;
            }
        }

        int countPieces() {
            int sum = 0;
            for (int i = 0; i < rows.length; i++) {
                sum += rows[i].count;
            }
            return sum;
        }

        boolean isIdle() {
            for (int i = 0; i < rows.length; i++) {
                if (rows[i].count > 0 || rows[i].owner != NONE) {
                    return false;
                }
            }
            return true;
        }
    }

    /** A message, a question or an answer, and how far it is. */
    private static final class Packet {
        final int number;
        char kind;
        char state;
        int source;
        int goal;
        int word;
        int size;
        int put;
        int taken;
        int headNode;
        int madeIn;
        int deliveredIn;
        int place;
        int added;
        int answeredBy;

        Packet(int number) {
            this.number = number;
        }

        int channel() {
            return kind == 'a' ? 1 : 0;
        }

        boolean isTail(int piece) {
            return piece == size - 1;
        }

        boolean isYetToPut() {
            return put < size && state != 'l';
        }

        boolean wasDelivered() {
            return state == 'd' || state == 'r';
        }

        int piecesInRows() {
            return state == 'l' ? 0 : put - taken;
        }

        int beatsTaken() {
            return deliveredIn - madeIn;
        }
    }

    /** All packets, and how many answers are owed to questions that were neither delivered nor lost. */
    private static final class Post {
        final Packet[] all = new Packet[MOST_PACKETS];
        int made;
        int owed;

        Post() {
            for (int i = 0; i < MOST_PACKETS; i++) {
                all[i] = new Packet(i);
            }
        }

        void reset() {
            made = 0;
            owed = 0;
        }

        boolean hasRoom(int many) {
            return made + owed + many <= MOST_PACKETS;
        }

        Packet find(int number) {
            return number >= 0 && number < made && number < MOST_PACKETS ? all[number] : null;
        }

        int make(char kind, int source, int goal, int word, int bodies, int passed) {
            if (made >= MOST_PACKETS) {
                return NONE;
            }
            Packet packet = all[made];
            packet.kind = kind;
            packet.state = 's';
            packet.source = source;
            packet.goal = goal;
            packet.word = word;
            packet.size = bodies + 1;
            packet.put = 0;
            packet.taken = 0;
            packet.headNode = NONE;
            packet.madeIn = passed;
            packet.deliveredIn = NONE;
            packet.place = 0;
            packet.added = 0;
            packet.answeredBy = NONE;
            if (kind == 'q') {
                owed++;
            }
            made++;
            return packet.number;
        }

        int countLying(int node, int source) {
            int sum = 0;
            for (int i = 0; i < made; i++) {
                if (liesAt(all[i], node, source)) {
                    sum++;
                }
            }
            return sum;
        }

        Packet firstLying(int node, int source) {
            Packet first = null;
            for (int i = 0; i < made; i++) {
                Packet packet = all[i];
                if (liesAt(packet, node, source) && (first == null || packet.deliveredIn < first.deliveredIn)) {
                    first = packet;
                }
            }
            return first;
        }

        private boolean liesAt(Packet packet, int node, int source) {
            return packet.kind == 'm' && packet.state == 'd' && packet.goal == node && packet.source == source;
        }

        int countLost() {
            int sum = 0;
            for (int i = 0; i < made; i++) {
                if (all[i].state == 'l') {
                    sum++;
                }
            }
            return sum;
        }

        int countDelivered() {
            int sum = 0;
            for (int i = 0; i < made; i++) {
                if (all[i].wasDelivered()) {
                    sum++;
                }
            }
            return sum;
        }

        int sumOfTimes() {
            int sum = 0;
            for (int i = 0; i < made; i++) {
                if (all[i].wasDelivered()) {
                    sum += all[i].beatsTaken();
                }
            }
            return sum;
        }
    }

    /** Where heads go, by the way of all, and by that the graph of links: to which ones each leads on, as bits. */
    private static final class Ways {
        final Net net;
        final Router[] routers;
        final int[] onward = new int[MOST_LINKS];
        final boolean[] isEnded = new boolean[MOST_LINKS];
        char way = 'x';

        Ways(Net net, Router[] routers) {
            this.net = net;
            this.routers = routers;
        }

        /** The side to which a head at a node goes as it is looked at. */
        int heading(int node, int goal, int channel) {
            if (node == goal) {
                return CORE;
            }
            if (way == 't') {
                return headingByTurns(node, goal, channel);
            }
            int alongX = net.alongX(node, goal);
            int alongY = net.alongY(node, goal);
            if (way == 'x') {
                return alongX != NONE ? alongX : alongY;
            }
            return alongY != NONE ? alongY : alongX;
        }

        private int headingByTurns(int node, int goal, int channel) {
            int alongX = net.alongX(node, goal);
            int alongY = net.alongY(node, goal);
            if (alongX == WEST || alongY == NONE) {
                return alongX;
            }
            if (alongX == NONE) {
                return alongY;
            }
            if (isFreeAhead(node, alongX, channel)) {
                return alongX;
            }
            if (isFreeAhead(node, alongY, channel)) {
                return alongY;
            }
            boolean onlyYIsWhole = !net.isWhole(node * DIRECTIONS + alongX) && net.isWhole(node * DIRECTIONS + alongY);
            return onlyYIsWhole ? alongY : alongX;
        }

        private boolean isFreeAhead(int node, int direction, int channel) {
            int link = node * DIRECTIONS + direction;
            if (net.ahead[link] == NONE || net.failed[link]) {
                return false;
            }
            Row row = routers[net.ahead[link]].rows[channel * SIDES + net.opposite(direction)];
            return row.owner == NONE && row.hasPlace();
        }

        /** Whether a packet could go in this direction, wherever places are free. */
        boolean couldGo(int node, int goal, int direction) {
            if (node == goal || !net.isWhole(node * DIRECTIONS + direction)) {
                return false;
            }
            int alongX = net.alongX(node, goal);
            if (way != 't' || alongX == WEST) {
                return heading(node, goal, 0) == direction;
            }
            return direction == alongX || direction == net.alongY(node, goal);
        }

        void trace() {
            for (int node = 0; node < MOST_NODES; node++) {
                for (int direction = 0; direction < DIRECTIONS; direction++) {
                    boolean isThere = net.hasNode(node) && net.isWhole(node * DIRECTIONS + direction);
                    onward[node * DIRECTIONS + direction] = isThere ? onwardOf(node, direction) : 0;
                }
            }
        }

        private int onwardOf(int node, int direction) {
            int next = net.ahead[node * DIRECTIONS + direction];
            int found = 0;
            for (int goal = 0; goal < net.nodes; goal++) {
                if (couldGo(node, goal, direction)) {
                    for (int to = 0; to < DIRECTIONS; to++) {
                        found |= couldGo(next, goal, to) ? 1 << to : 0;
                    }
                }
            }
            return found;
        }

        int countPairs() {
            int sum = 0;
            for (int link = 0; link < MOST_LINKS; link++) {
                sum += Integer.bitCount(onward[link]);
            }
            return sum;
        }

        /** Ends links that lead to none but ended ones, as often as there are links; what is left over has a ring. */
        boolean findsRing() {
            for (int link = 0; link < MOST_LINKS; link++) {
                isEnded[link] = onward[link] == 0;
            }
            int left = MOST_LINKS;
            for (int i = 0; i < MOST_LINKS && left > 0; i++) {
                left = 0;
                for (int link = 0; link < MOST_LINKS; link++) {
                    isEnded[link] = isEnded[link] || endsOnward(link);
                    left += isEnded[link] ? 0 : 1;
                }
            }
            return left > 0;
        }

        private boolean endsOnward(int link) {
            int next = net.ahead[link];
            if (!net.hasNode(next)) {
                return true;
            }
            for (int to = 0; to < DIRECTIONS; to++) {
                if ((onward[link] >> to & 1) != 0 && !isEnded[next * DIRECTIONS + to]) {
                    return false;
                }
            }
            return true;
        }
    }

    /** What the routers and the sources do in a beat. */
    private static final class Mover {
        final Net net;
        final Ways ways;
        final Router[] routers;
        final Post post;
        final Core[] cores;
        int passed;
        int now;
        boolean hasMoved;

        Mover(Ways ways, Post post, Core[] cores) {
            this.net = ways.net;
            this.ways = ways;
            this.routers = ways.routers;
            this.post = post;
            this.cores = cores;
        }

        void reset() {
            passed = 0;
            now = 0;
            hasMoved = false;
        }

        void beginBeat() {
            now = passed + 1;
            hasMoved = false;
        }

        void endBeat() {
            for (int node = 0; node < net.nodes; node++) {
                Router router = routers[node];
                if (router.isWoken) {
                    router.isAwake = true;
                    router.isWoken = false;
                }
            }
            passed = now;
        }

        void moveAll() {
            for (int node = 0; node < net.nodes; node++) {
                if (routers[node].isAwake && routers[node].countPieces() > 0) {
                    for (int output = 0; output < SIDES; output++) {
                        giveTo(node, output);
                    }
                }
            }
        }

        /** Lets the first row whose piece can be moved give it to an output. */
        private void giveTo(int node, int output) {
            Router router = routers[node];
            for (int channel = CHANNELS - 1; channel >= 0; channel--) {
                int turn = router.turn[channel * SIDES + output];
                for (int i = 0; i < SIDES; i++) {
                    int side = (turn + i) % SIDES;
                    if (gives(node, output, router.rows[channel * SIDES + side])) {
                        router.turn[channel * SIDES + output] = (side + 1) % SIDES;
                        hasMoved = true;
                        return;
                    }
                }
            }
        }

        /** Looks at a row for an output, and moves its first piece if it goes there and can. */
        private boolean gives(int node, int output, Row row) {
            if (!row.canBeLookedAt(now)) {
                return false;
            }
            Packet packet = post.find(row.packet[0]);
            if (packet == null) {
                return false;
            }
            boolean isHead = row.piece[0] == 0;
            int to = isHead ? ways.heading(node, packet.goal, packet.channel()) : row.headWent;
            if (to != output) {
                return false;
            }
            if (output == CORE) {
                giveToCore(row, packet);
                return true;
            }
            if (isHead && net.failed[node * DIRECTIONS + output]) {
                lose(packet);
                return false;
            }
            return givesAhead(net.ahead[node * DIRECTIONS + output], output, row, packet);
        }

        private boolean givesAhead(int next, int output, Row row, Packet packet) {
            if (!net.hasNode(next)) {
                return false;
            }
            int piece = row.piece[0];
            Router router = routers[next];
            if (!router.isAwake) {
                router.isWoken = router.isWoken || piece == 0;
                return false;
            }
            Row ahead = router.rows[packet.channel() * SIDES + net.opposite(output)];
            if (!ahead.hasPlace() || piece == 0 && ahead.owner != NONE) {
                return false;
            }
            if (piece == 0) {
                row.headWent = output;
                ahead.owner = packet.number;
                packet.headNode = next;
            }
            row.giveFirst(packet.isTail(piece), now);
            ahead.addPiece(packet.number, piece, now);
            return true;
        }

        private void giveToCore(Row row, Packet packet) {
            int piece = row.piece[0];
            if (piece == 0) {
                row.headWent = CORE;
                packet.headNode = NONE;
            }
            row.giveFirst(packet.isTail(piece), now);
            packet.taken++;
            if (packet.isTail(piece)) {
                deliver(packet);
            }
        }

        private void deliver(Packet packet) {
            packet.state = 'd';
            packet.deliveredIn = now;
            if (packet.kind == 'q') {
                Core core = cores[packet.goal];
                int before = core.memory[packet.place];
                core.memory[packet.place] = before + packet.added;
                post.owed--;
                packet.answeredBy = post.make('a', packet.goal, packet.source, before, 1, passed);
            }
        }

        private void lose(Packet packet) {
            packet.state = 'l';
            packet.headNode = NONE;
            if (packet.kind == 'q') {
                post.owed--;
            }
            for (int node = 0; node < net.nodes; node++) {
                for (int side = 0; side < SIDES; side++) {
                    routers[node].rows[packet.channel() * SIDES + side].dropPacket(packet.number);
                }
            }
        }

        void putAll() {
            for (int node = 0; node < net.nodes; node++) {
                putPiece(node, 1);
                putPiece(node, 0);
            }
        }

        private void putPiece(int node, int channel) {
            Router router = routers[node];
            Packet packet = firstToPut(router, node, channel);
            if (packet == null) {
                return;
            }
            if (!router.isAwake) {
                router.isWoken = true;
                return;
            }
            Row row = router.rows[channel * SIDES + CORE];
            if (!row.hasPlace()) {
                return;
            }
            if (packet.put == 0) {
                packet.state = 'w';
                packet.headNode = node;
            }
            row.addPiece(packet.number, packet.put, now);
            packet.put++;
            hasMoved = true;
        }

        /** The first packet of a core and channel that is not wholly in; no earlier one can come back to be it. */
        private Packet firstToPut(Router router, int node, int channel) {
            int number = router.firstToPut[channel];
            while (number < post.made) {
                Packet packet = post.all[number];
                if (packet.source == node && packet.channel() == channel && packet.isYetToPut()) {
                    break;
                }
                number++;
            }
            router.firstToPut[channel] = number;
            return post.find(number);
        }
    }

    /** The memory, the stack and the program of a node, and how its core is. */
    private static final class Core {
        final int[] memory = new int[MEMORY_WORDS];
        final int[] stack = new int[STACK_WORDS];
        final char[] names = new char[MOST_INSTRUCTIONS];
        final int[] numbers = new int[MOST_INSTRUCTIONS];
        int depth;
        int length;
        int at;
        char state;
        char faultMet;

        void reset() {
            for (int place = 0; place < MEMORY_WORDS; place++) {
                memory[place] = 0;
            }
            depth = 0;
            length = 0;
            at = 0;
            state = '-';
            faultMet = '-';
        }

        void addInstruction(char name, int number) {
            if (length < MOST_INSTRUCTIONS) {
                names[length] = name;
                numbers[length] = number;
                length++;
            }
        }

        void begin() {
            depth = 0;
            at = 0;
            state = 'r';
        }

        /** Runs, or waits for a message. */
        boolean isActive() {
            return state == 'r' || state == 'w';
        }

        /** Runs, or waits for a message or at the barrier. */
        boolean isBusy() {
            return isActive() || state == 'b';
        }

        boolean hasInstruction() {
            return at >= 0 && at < length && at < MOST_INSTRUCTIONS;
        }

        void stopBy(char met) {
            state = 'x';
            faultMet = met;
        }

        /** Whether as many words can be popped; if not, the core stops. */
        boolean canPop(int words) {
            if (depth < words) {
                stopBy('u');
            }
            return depth >= words && depth <= STACK_WORDS;
        }

        boolean isFull() {
            return depth >= STACK_WORDS;
        }

        void pushAndGoOn(int word) {
            if (isFull()) {
                stopBy('o');
                return;
            }
            stack[depth] = word;
            depth++;
            at++;
        }

        void load(int place) {
            if (place >= 0 && place < MEMORY_WORDS) {
                pushAndGoOn(memory[place]);
            }
        }

        void store(int place) {
            if (place >= 0 && place < MEMORY_WORDS && canPop(1)) {
                depth--;
                memory[place] = stack[depth];
                at++;
            }
        }

        void reckon(char name) {
            if (canPop(2)) {
                int second = stack[depth - 1];
                int first = stack[depth - 2];
                int sum = name == '+' ? first + second : first - second;
                stack[depth - 2] = name == '*' ? first * second : sum;
                depth--;
                at++;
            }
        }

        void jump(int to) {
            if (canPop(1)) {
                depth--;
                at = stack[depth] != 0 ? to : at + 1;
            }
        }
    }

    /** What the cores do in a beat, and the barrier. */
    private static final class Works {
        final Net net;
        final Post post;
        final Core[] cores;

        Works(Net net, Post post, Core[] cores) {
            this.net = net;
            this.post = post;
            this.cores = cores;
        }

        void runCores(int passed) {
            for (int node = 0; node < net.nodes; node++) {
                if (cores[node].isActive()) {
                    runOne(node, cores[node], passed);
                }
            }
        }

        private void runOne(int node, Core core, int passed) {
            if (!core.hasInstruction()) {
                core.stopBy('j');
                return;
            }
            char name = core.names[core.at];
            int number = core.numbers[core.at];
            switch (name) {
                case 'p':
                    core.pushAndGoOn(number);
                    break;
                case 'l':
                    core.load(number);
                    break;
                case 's':
                    core.store(number);
                    break;
                case 'd':
                    sendWord(node, core, number, passed);
                    break;
                case 'r':
                    receiveWord(node, core, number);
                    break;
                case 'j':
                    core.jump(number);
                    break;
                case 'b':
                    core.state = 'b';
                    break;
                case 'h':
                    core.state = 'h';
                    break;
                default:
                    core.reckon(name);
                    break;
            }
        }

        private void sendWord(int node, Core core, int goal, int passed) {
            if (!core.canPop(1)) {
                return;
            }
            if (!post.hasRoom(1)) {
                core.stopBy('p');
                return;
            }
            core.depth--;
            post.make('m', node, goal, core.stack[core.depth], 1, passed);
            core.at++;
        }

        private void receiveWord(int node, Core core, int source) {
            Packet message = post.firstLying(node, source);
            if (message == null) {
                core.state = 'w';
                return;
            }
            // A message that finds no room on the stack is not taken: it goes on lying there.
            if (!core.isFull()) {
                message.state = 'r';
                core.state = 'r';
            }
            core.pushAndGoOn(message.word);
        }

        void passBarrier() {
            for (int node = 0; node < net.nodes; node++) {
                if (cores[node].isActive()) {
                    return;
                }
            }
            for (int node = 0; node < net.nodes; node++) {
                Core core = cores[node];
                if (core.state == 'b') {
                    core.state = 'r';
                    core.at++;
                }
            }
        }

        int countBusy() {
            int sum = 0;
            for (int node = 0; node < net.nodes; node++) {
                if (cores[node].isBusy()) {
                    sum++;
                }
            }
            return sum;
        }
    }

    /** The tasks, their nodes, and the traffic of each two. */
    private static final class Placing {
        final Net net;
        final int[] node = new int[MOST_TASKS];
        final int[] much = new int[MOST_TASKS * MOST_TASKS];
        int tasks;

        Placing(Net net) {
            this.net = net;
        }

        void reset() {
            tasks = 0;
            for (int i = 0; i < much.length; i++) {
                much[i] = 0;
            }
        }

        int addTask(int at) {
            if (tasks >= MOST_TASKS) {
                return NONE;
            }
            node[tasks] = at;
            tasks++;
            return tasks - 1;
        }

        int setTraffic(int task, int other, int now) {
            int before = much[task * MOST_TASKS + other];
            much[task * MOST_TASKS + other] = now;
            much[other * MOST_TASKS + task] = now;
            return before;
        }

        int countCost() {
            int sum = 0;
            for (int first = 0; first < tasks; first++) {
                for (int second = first + 1; second < tasks; second++) {
                    sum += much[first * MOST_TASKS + second] * net.stepsBetween(node[first], node[second]);
                }
            }
            return sum;
        }

        /** Makes the exchange by which the cost falls most, and tells by how much; 0, and none is made, if by none. */
        int swapBest() {
            int before = countCost();
            int best = 0;
            int bestFirst = 0;
            int bestSecond = 0;
            for (int first = 0; first < tasks; first++) {
                for (int second = first + 1; second < tasks; second++) {
                    exchange(first, second);
                    int fall = before - countCost();
                    exchange(first, second);
                    if (fall > best) {
                        best = fall;
                        bestFirst = first;
                        bestSecond = second;
                    }
                }
            }
            exchange(bestFirst, bestSecond);
            return best;
        }

        private void exchange(int first, int second) {
            int kept = node[first];
            node[first] = node[second];
            node[second] = kept;
        }
    }

    /** Looks over the rows for what isSound tells. */
    private static final class Audit {
        final Net net;
        final Router[] routers;
        final int[] foundNode = new int[MOST_PIECES];
        final int[] foundSide = new int[MOST_PIECES];
        final int[] foundPlace = new int[MOST_PIECES];

        Audit(Net net, Router[] routers) {
            this.net = net;
            this.routers = routers;
        }

        /** No row of a direction has pieces of two packets, and nothing is in a router that sleeps. */
        boolean rowsAreSound() {
            for (int node = 0; node < net.nodes; node++) {
                Router router = routers[node];
                if (!router.isAwake && router.countPieces() > 0) {
                    return false;
                }
                for (int i = 0; i < router.rows.length; i++) {
                    if (i % SIDES != CORE && !hasOnePacket(router.rows[i])) {
                        return false;
                    }
                }
            }
            return true;
        }

        private boolean hasOnePacket(Row row) {
            for (int i = 1; i < row.count; i++) {
                if (row.packet[i] != row.packet[0]) {
                    return false;
                }
            }
            return true;
        }

        /** The pieces that are neither taken nor yet to be put in are in rows, once each, and in order. */
        boolean packetIsSound(Packet packet) {
            for (int piece = 0; piece < MOST_PIECES; piece++) {
                foundNode[piece] = NONE;
            }
            if (findPieces(packet) != packet.put - packet.taken) {
                return false;
            }
            for (int piece = Math.max(0, packet.taken); piece < packet.put && piece < MOST_PIECES; piece++) {
                if (foundNode[piece] == NONE || piece > packet.taken && !isBehind(packet, piece)) {
                    return false;
                }
            }
            return packet.put <= packet.size;
        }

        private int findPieces(Packet packet) {
            int many = 0;
            for (int node = 0; node < net.nodes; node++) {
                for (int side = 0; side < SIDES; side++) {
                    many += findInRow(packet, node, side);
                }
            }
            return many;
        }

        private int findInRow(Packet packet, int node, int side) {
            Row row = routers[node].rows[packet.channel() * SIDES + side];
            int many = 0;
            for (int place = 0; place < row.count; place++) {
                int piece = row.piece[place];
                if (row.packet[place] == packet.number && piece >= 0 && piece < MOST_PIECES) {
                    foundNode[piece] = node;
                    foundSide[piece] = side;
                    foundPlace[piece] = place;
                    many++;
                }
            }
            return many;
        }

        /** Whether a piece is behind the one ahead of it: each link of any way leads a step away from the source. */
        private boolean isBehind(Packet packet, int piece) {
            int ahead = piece - 1;
            if (ahead < 0 || foundNode[ahead] == NONE) {
                return false;
            }
            if (foundNode[ahead] == foundNode[piece]) {
                return foundSide[ahead] == foundSide[piece] && foundPlace[ahead] < foundPlace[piece];
            }
            int stepsAhead = net.stepsBetween(packet.source, foundNode[ahead]);
            return stepsAhead > net.stepsBetween(packet.source, foundNode[piece]);
        }
    }
}

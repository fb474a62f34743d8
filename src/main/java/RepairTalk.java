import java.util.Arrays;
import java.util.NoSuchElementException;

/** A group that talks lost packets whole again: see README.md for its use, ../shared/DOC.md for its promises. */
public final class RepairTalk {
    public static final int NONE = -1;

    private static final int MOST_NODES = 6;
    private static final int MOST_LINKS = 10;
    private static final int MOST_PACKETS = 12;
    private static final int MOST_MESSAGES = 64;
    private static final int MOST_TEXTS = 12;
    private static final int MOST_LINES = 14;
    private static final int MOST_DIGITS = 3;
    private static final int MOST_BYTES = 400;
    private static final int MOST_ROWS = 60;
    private static final int MOST_TICKS = 60;
    private static final int MOST_AHEAD = 120;
    private static final int MOST_TRIED = 20;
    private static final int MOST_LOAD = 9999;
    private static final int MOST_LOSS = 100;
    private static final int MOST_SCOPE = 5;
    private static final int MOST_BACK = 5;
    private static final int MOST_FACTOR = 32;
    private static final int MOST_PERIOD = 20;
    private static final int MOST_DELAY = 9;

    private static final int BLANK = 32;
    private static final int SEMICOLON = 59;

    private static final int DATA = 0;
    private static final int REQUEST = 1;
    private static final int REPAIR = 2;
    private static final int REPORT = 3;

    private static final int ROW_SENT = 0;
    private static final int ROW_REQUEST = 1;
    private static final int ROW_REPAIR = 2;
    private static final int ROW_GOT = 3;

    private static final int GAP_LINK = 0;
    private static final int GAP_ABOVE = 1;
    private static final int GAP_NO_WAY = 2;
    private static final int GAP_CROWD = 3;
    private static final int GAP_DOWN = 4;
    private static final int GAP_TAKEN = 5;

    private static final int DRAWN = 0;
    private static final int EARLY = 1;
    private static final int LATE = 2;

    private final Tape tape;
    private final Reader reader;
    private final World now;
    private final World kept;
    private final World trial;
    private boolean isKept;
    private int wrongByte;

    public RepairTalk() {
        tape = new Tape();
        reader = new Reader(tape);
        now = new World();
        kept = new World();
        trial = new World();
        isKept = false;
        wrongByte = NONE;
    }

    public int feed(int a, int b, int c, int d, int e) {
        if (!tape.hasRoom()) {
            return NONE;
        }
        tape.put(a);
        tape.put(b);
        tape.put(c);
        tape.put(d);
        tape.put(e);
        return tape.length;
    }

    public boolean end(int n) {
        if (n < 0 || n > tape.length) {
            return false;
        }
        tape.length = n;
        return true;
    }

    public int group() throws IllegalArgumentException, UnsupportedOperationException {
        // Read into a copy, so that of a wrong or refused text nothing stays.
        trial.copy(now);
        wrongByte = reader.read(trial);
        tape.length = 0;
        if (wrongByte != NONE) {
            throw new IllegalArgumentException("the text is wrong");
        }
        if (now.texts >= MOST_TEXTS) {
            throw new UnsupportedOperationException("there are 12 texts");
        }
        now.copy(trial);
        now.texts++;
        now.findWays();
        return now.texts;
    }

    public int fault() {
        return wrongByte;
    }

    public int node(int node, int what) throws IndexOutOfBoundsException, NoSuchElementException {
        checkNode(node);
        Members members = now.members;
        switch (what) {
            case 0: return members.isUp(node) ? 1 : 0;
            case 1: return members.has[node];
            case 2: return members.heard[node];
            case 3: return members.missing(node);
            case 4: return members.c1[node];
            case 5: return members.c2[node];
            case 6: return members.ave[node];
            case 7: return members.requests[node];
            case 8: return members.repairs[node];
            case 9: return members.duplicates[node];
            case 10: return members.suppressed[node];
            default: throw new NoSuchElementException("no such thing of a node");
        }
    }

    public int est(int node, int other) throws IndexOutOfBoundsException, IllegalArgumentException {
        checkNode(node);
        checkNode(other);
        if (node == other) {
            throw new IllegalArgumentException("both nodes are one");
        }
        return now.members.est[pair(node, other)];
    }

    public int timer(int node, int packet, int what) throws IndexOutOfBoundsException, NoSuchElementException {
        checkNode(node);
        checkPacket(packet);
        Packets packets = now.packets;
        int cell = cell(node, packet);
        boolean asks = packets.ask[cell] != NONE;
        switch (what) {
            case 0: return packets.ask[cell];
            case 1: return asks ? packets.backed[cell] : NONE;
            case 2: return asks ? packets.ignore[cell] : NONE;
            case 3: return asks ? packets.asked[cell] : NONE;
            case 4: return asks ? packets.reqs[cell] : NONE;
            case 5: return packets.answer[cell];
            case 6: return packets.answered[cell];
            case 7: return packets.hold[cell];
            default: throw new NoSuchElementException("no such thing of a node and a packet");
        }
    }

    public int gap(int node, int packet, int k) throws IndexOutOfBoundsException {
        checkNode(node);
        checkPacket(packet);
        return now.packets.gapBehind(cell(node, packet), k);
    }

    public int link(int link, int what) throws IndexOutOfBoundsException, NoSuchElementException {
        checkLink(link);
        Links links = now.links;
        switch (what) {
            case 0: return links.one[link];
            case 1: return links.other[link];
            case 2: return links.delay[link];
            case 3: return links.losing[link];
            case 4: return links.isCut(link) ? 1 : 0;
            case 5: return links.load[link];
            default: throw new NoSuchElementException("no such thing of a link");
        }
    }

    public int flight(int k, int what) throws IndexOutOfBoundsException, NoSuchElementException {
        Air air = now.air;
        if (k < 0 || k >= air.size) {
            throw new IndexOutOfBoundsException("no such message");
        }
        switch (what) {
            case 0: return air.due[k];
            case 1: return air.to[k];
            case 2: return air.from[k];
            case 3: return air.kind[k];
            case 4: return air.packet[k];
            case 5: return air.heard[k];
            default: throw new NoSuchElementException("no such thing of a message");
        }
    }

    public int ticks(int n) throws IllegalArgumentException {
        if (n < 1 || n > MOST_TICKS) {
            throw new IllegalArgumentException("1 to 60 ticks");
        }
        int before = now.got;
        for (int i = 0; i < n; i++) {
            now.step();
        }
        return now.got - before;
    }

    public int send() throws IllegalStateException {
        if (!now.canSend()) {
            throw new IllegalStateException("the source cannot send");
        }
        now.sendNext();
        return now.next - 1;
    }

    public boolean wake(int node, boolean is) throws IndexOutOfBoundsException {
        checkNode(node);
        if (now.members.isUp(node) == is) {
            return false;
        }
        now.members.up ^= 1 << node;
        return true;
    }

    public boolean cut(int link, boolean is) throws IndexOutOfBoundsException {
        checkLink(link);
        if (now.links.isCut(link) == is) {
            return false;
        }
        now.links.cuts ^= 1 << link;
        now.findWays();
        return true;
    }

    public int loss(int link, int n) throws IndexOutOfBoundsException, IllegalArgumentException {
        checkLink(link);
        if (n < 0 || n > MOST_LOSS) {
            throw new IllegalArgumentException("a loss is 0 to 100");
        }
        int was = now.links.losing[link];
        now.links.losing[link] = n;
        return was;
    }

    public boolean give(int node, int packet, boolean is) throws IndexOutOfBoundsException, IllegalStateException {
        checkNode(node);
        checkPacket(packet);
        if (packet >= now.next) {
            throw new IllegalStateException("the packet was not sent yet");
        }
        if (now.members.hasPacket(node, packet) == is) {
            return false;
        }
        if (is) {
            now.handOver(node, packet);
        } else {
            now.takeAway(node, packet);
        }
        return true;
    }

    public int way(int node, int other, boolean hops) throws IndexOutOfBoundsException {
        checkNode(node);
        checkNode(other);
        int pair = pair(node, other);
        return hops ? now.ways.hops[pair] : now.ways.length[pair];
    }

    public int above(int node, int other) throws IndexOutOfBoundsException {
        checkNode(node);
        checkNode(other);
        return now.ways.parent[pair(node, other)];
    }

    public int window(int node, int packet, boolean late) throws IndexOutOfBoundsException {
        checkNode(node);
        checkPacket(packet);
        return now.askWindow(node, packet, late);
    }

    public int near(int node, int packet) throws IndexOutOfBoundsException {
        checkNode(node);
        checkPacket(packet);
        return now.ways.nearest(node, now.members.holdersOf(packet));
    }

    public int reach(int node, int scope) throws IndexOutOfBoundsException, IllegalArgumentException {
        checkNode(node);
        checkScope(scope);
        return now.ways.within(node, scope);
    }

    public int far(int node, int packet) throws IndexOutOfBoundsException {
        checkNode(node);
        checkPacket(packet);
        int holders = now.members.holdersOf(packet);
        for (int scope = 0; scope <= MOST_SCOPE; scope++) {
            if ((now.ways.within(node, scope) & holders) != 0) {
                return scope;
            }
        }
        return NONE;
    }

    public int whole(boolean late) {
        lookAhead(late);
        for (int n = 0; n < MOST_AHEAD; n++) {
            if (trial.isWhole()) {
                return n;
            }
            trial.step();
        }
        return trial.isWhole() ? MOST_AHEAD : NONE;
    }

    public int talk(int n, boolean late, boolean repairs) throws IllegalArgumentException {
        if (n < 0 || n > MOST_AHEAD) {
            throw new IllegalArgumentException("0 to 120 ticks ahead");
        }
        lookAhead(late);
        int before = repairs ? trial.members.allRepairs() : trial.members.allRequests();
        for (int i = 0; i < n; i++) {
            trial.step();
        }
        return (repairs ? trial.members.allRepairs() : trial.members.allRequests()) - before;
    }

    public int parts() {
        return now.links.bridges();
    }

    public int giver(int node, int packet, int k) throws IndexOutOfBoundsException {
        checkNode(node);
        checkPacket(packet);
        int[] from = now.packets.from;
        int giver = from[cell(node, packet)];
        if (k < 0 || k >= MOST_NODES || giver == NONE) {
            return NONE;
        }
        int seen = 1 << node | 1 << giver;
        for (int i = 0; i < k; i++) {
            giver = from[cell(giver, packet)];
            if (giver == NONE || isIn(seen, giver)) {
                return NONE;
            }
            seen |= 1 << giver;
        }
        return giver;
    }

    public int when(int node, int packet) throws IndexOutOfBoundsException {
        checkNode(node);
        checkPacket(packet);
        return now.packets.since[cell(node, packet)];
    }

    public int route(int node, int other, int k) throws IndexOutOfBoundsException {
        checkNode(node);
        checkNode(other);
        int hops = now.ways.hops[pair(node, other)];
        if (k < 0 || k > hops) {
            return NONE;
        }
        int at = other;
        for (int i = hops; i > k; i--) {
            at = now.ways.parent[pair(node, at)];
        }
        return at;
    }

    public int crossed(int node, int scope) throws IndexOutOfBoundsException, IllegalArgumentException {
        checkNode(node);
        checkScope(scope);
        return now.ways.linksWithin(node, scope);
    }

    public int center() {
        return now.ways.middle();
    }

    public int first(int packet) throws IndexOutOfBoundsException {
        checkPacket(packet);
        int found = NONE;
        int least = NONE;
        for (int node = 0; node < now.members.size; node++) {
            int ask = now.packets.ask[cell(node, packet)];
            if (ask != NONE && now.members.isUp(node) && (found == NONE || ask < least)) {
                found = node;
                least = ask;
            }
        }
        return found;
    }

    public int blind(int node) throws IndexOutOfBoundsException {
        checkNode(node);
        int known = bitsBelow(now.members.heard[node] + 1) | now.members.has[node];
        return bitsBelow(now.next) & ~known;
    }

    public int guard(int node, int packet) throws IndexOutOfBoundsException {
        checkNode(node);
        checkPacket(packet);
        return now.links.fewestAround(node, now.members.holdersOf(packet));
    }

    public int best(int n, boolean late) throws IllegalArgumentException {
        if (n < 0 || n > MOST_TRIED) {
            throw new IllegalArgumentException("0 to 20 ticks ahead");
        }
        int found = 0;
        int fewest = NONE;
        // Fewer than none cannot be, so the first one without a request ends the search.
        for (int c1 = 0; c1 <= MOST_FACTOR && fewest != 0; c1++) {
            lookAhead(late);
            Arrays.fill(trial.members.c1, c1);
            int before = trial.members.allRequests();
            for (int i = 0; i < n; i++) {
                trial.step();
            }
            int requests = trial.members.allRequests() - before;
            if (fewest == NONE || requests < fewest) {
                found = c1;
                fewest = requests;
            }
        }
        return found;
    }

    public int spread(int scope) throws IllegalArgumentException {
        checkScope(scope);
        return now.ways.fewestCovering(scope);
    }

    public int holders(int packet) throws IndexOutOfBoundsException {
        checkPacket(packet);
        return now.members.holdersOf(packet);
    }

    public int log(int ago, int what) throws NoSuchElementException {
        if (what < 0 || what >= Log.WIDTH) {
            throw new NoSuchElementException("no such thing of a row");
        }
        return now.log.told(ago, what);
    }

    public int seed(int n) {
        int was = now.chance.seed;
        now.chance.seed = n;
        return was;
    }

    public void image() {
        kept.copy(now);
        isKept = true;
    }

    public boolean back() {
        if (!isKept) {
            return false;
        }
        now.copy(kept);
        return true;
    }

    public int count(int what) {
        Told told = now.told;
        switch (what) {
            case 0: return now.members.size;
            case 1: return now.links.size;
            case 2: return now.texts;
            case 3: return told.source;
            case 4: return now.next;
            case 5: return told.scope;
            case 6: return told.period;
            case 7: return told.rate;
            case 8: return told.c1;
            case 9: return told.c2;
            case 10: return told.d1;
            case 11: return told.d2;
            case 12: return now.air.size;
            case 13: return now.crowd;
            case 14: return now.tick;
            case 15: return now.log.size;
            case 16: return now.alone;
            default: return NONE;
        }
    }

    private void checkNode(int node) {
        if (node < 0 || node >= now.members.size) {
            throw new IndexOutOfBoundsException("no such node");
        }
    }

    private void checkLink(int link) {
        if (link < 0 || link >= now.links.size) {
            throw new IndexOutOfBoundsException("no such link");
        }
    }

    private static void checkPacket(int packet) {
        if (packet < 0 || packet >= MOST_PACKETS) {
            throw new IndexOutOfBoundsException("no such packet");
        }
    }

    private static void checkScope(int scope) {
        if (scope < 0 || scope > MOST_SCOPE) {
            throw new IllegalArgumentException("a scope is 0 to 5");
        }
    }

    private void lookAhead(boolean late) {
        trial.copy(now);
        trial.chance.mode = late ? LATE : EARLY;
    }

    private static int pair(int node, int other) {
        return node * MOST_NODES + other;
    }

    private static int cell(int node, int packet) {
        return node * MOST_PACKETS + packet;
    }

    private static boolean isIn(int bits, int number) {
        return (bits >> number & 1) == 1;
    }

    private static int bitsBelow(int number) {
        return (1 << number) - 1;
    }

    private static void copyRow(int[] from, int[] to) {
        System.arraycopy(from, 0, to, 0, Math.min(from.length, to.length));
    }

    private static int[] rowOfNone(int length) {
        int[] row = new int[Math.max(length, 0)];
        Arrays.fill(row, NONE);
        return row;
    }

    /** The bytes that were fed and are not used up yet. */
    private static final class Tape {
        final byte[] bytes = new byte[MOST_BYTES];
        int length = 0;

        boolean hasRoom() {
            return length + 5 * 4 <= MOST_BYTES;
        }

        void put(int number) {
            for (int shift = 24; shift >= 0 && length < MOST_BYTES; shift -= 8) {
                bytes[length] = (byte) (number >>> shift);
                length++;
            }
        }

        int byteAt(int at) {
            return at >= 0 && at < length ? bytes[at] & 255 : NONE;
        }
    }

    /** Reads a text of the group into a world; what went in by a wrong text is the caller's to throw away. */
    private static final class Reader {
        private final Tape tape;
        private int at;
        private int begin;
        private int wrong;

        Reader(Tape tape) {
            this.tape = tape;
        }

        /** Answers the first wrong byte, or NONE. */
        int read(World world) {
            at = 0;
            begin = 0;
            wrong = NONE;
            skipBlanks();
            if (at >= tape.length) {
                return NONE;
            }
            for (int line = 0; line < MOST_LINES; line++) {
                if (!readLine(world)) {
                    return wrong;
                }
                skipBlanks();
                if (at >= tape.length) {
                    return NONE;
                }
                if (tape.byteAt(at) != SEMICOLON) {
                    return at;
                }
                at++;
                skipBlanks();
            }
            return at;
        }

        private boolean readLine(World world) {
            takeWord();
            if (isWord("node")) {
                return readNode(world);
            }
            if (isWord("link")) {
                return readLink(world);
            }
            if (isWord("request")) {
                return readRequest(world);
            }
            if (isWord("repair")) {
                return readRepair(world.told);
            }
            return readNumber(world);
        }

        private boolean readNode(World world) {
            if (world.members.size >= MOST_NODES) {
                return fail();
            }
            skipBlanks();
            boolean isDown = isLetter(tape.byteAt(at));
            if (isDown && !takeThisWord("down")) {
                return false;
            }
            world.members.add(!isDown, world.told.c1, world.told.c2);
            return true;
        }

        private boolean readLink(World world) {
            if (world.links.size >= MOST_LINKS) {
                return fail();
            }
            int last = world.members.size - 1;
            int one = takeNumber(0, last);
            int other = one == NONE ? NONE : takeNumber(0, last);
            if (other == NONE) {
                return false;
            }
            if (one == other || world.links.between(one, other) != NONE) {
                return fail();
            }
            int delay = takeThisWord("delay") ? takeNumber(1, MOST_DELAY) : NONE;
            if (delay == NONE) {
                return false;
            }
            int loss = takeThisWord("loss") ? takeNumber(0, MOST_LOSS) : NONE;
            if (loss == NONE) {
                return false;
            }
            world.links.add(one, other, delay, loss);
            return true;
        }

        private boolean readRequest(World world) {
            int c1 = takeNumber(0, MOST_FACTOR);
            int c2 = c1 == NONE ? NONE : takeNumber(0, MOST_FACTOR);
            if (c2 == NONE) {
                return false;
            }
            world.told.c1 = c1;
            world.told.c2 = c2;
            Arrays.fill(world.members.c1, c1);
            Arrays.fill(world.members.c2, c2);
            return true;
        }

        private boolean readRepair(Told told) {
            int d1 = takeNumber(0, MOST_FACTOR);
            int d2 = d1 == NONE ? NONE : takeNumber(0, MOST_FACTOR);
            if (d2 == NONE) {
                return false;
            }
            told.d1 = d1;
            told.d2 = d2;
            return true;
        }

        /** The lines of one word and one number. */
        private boolean readNumber(World world) {
            Told told = world.told;
            if (isWord("source")) {
                told.source = takeNumber(0, world.members.size - 1);
                return told.source != NONE;
            }
            if (isWord("scope")) {
                told.scope = takeNumber(1, MOST_SCOPE);
                return told.scope != NONE;
            }
            if (isWord("session")) {
                told.period = takeNumber(0, MOST_PERIOD);
                return told.period != NONE;
            }
            if (isWord("rate")) {
                told.rate = takeNumber(0, MOST_PERIOD);
                return told.rate != NONE;
            }
            return fail();
        }

        private boolean fail() {
            wrong = begin;
            return false;
        }

        private void skipBlanks() {
            while (at < tape.length && tape.byteAt(at) == BLANK) {
                at++;
            }
        }

        private void takeWord() {
            skipBlanks();
            begin = at;
            while (at < tape.length && isLetter(tape.byteAt(at))) {
                at++;
            }
        }

        private boolean takeThisWord(String word) {
            takeWord();
            return isWord(word) || fail();
        }

        /** Answers NONE, with the fault told, if no number from least to most stands there. */
        private int takeNumber(int least, int most) {
            skipBlanks();
            begin = at;
            int value = 0;
            while (at < tape.length && isDigit(tape.byteAt(at))) {
                if (at - begin < MOST_DIGITS) {
                    value = value * 10 + tape.byteAt(at) - '0';
                }
                at++;
            }
            int digits = at - begin;
            if (digits < 1 || digits > MOST_DIGITS || value < least || value > most) {
                fail();
                return NONE;
            }
            return value;
        }

        private boolean isWord(String word) {
            if (at - begin != word.length()) {
                return false;
            }
            for (int i = 0; i < word.length(); i++) {
                if (tape.byteAt(begin + i) != word.charAt(i)) {
                    return false;
                }
            }
            return true;
        }

        private static boolean isLetter(int sign) {
            return sign >= 'a' && sign <= 'z';
        }

        private static boolean isDigit(int sign) {
            return sign >= '0' && sign <= '9';
        }
    }

    /** What the texts told of the group as a whole. */
    private static final class Told {
        int source = 0;
        int scope = 5;
        int period = 0;
        int rate = 0;
        int c1 = 8;
        int c2 = 8;
        int d1 = 4;
        int d2 = 4;

        void copy(Told that) {
            source = that.source;
            scope = that.scope;
            period = that.period;
            rate = that.rate;
            c1 = that.c1;
            c2 = that.c2;
            d1 = that.d1;
            d2 = that.d2;
        }
    }

    /** The draws, or, ahead, what stands in their place. */
    private static final class Chance {
        int seed = 1;
        int mode = DRAWN;

        void copy(Chance that) {
            seed = that.seed;
            mode = that.mode;
        }

        /** A draw modulo one more than most. */
        int upTo(int most) {
            if (mode != DRAWN) {
                return mode == LATE ? most : 0;
            }
            seed = 1103515245 * seed + 12345;
            int drawn = seed >>> 16 & 0x7FFF;
            return most > 0 ? drawn % (most + 1) : 0;
        }
    }

    /** The nodes: a row has a place for each node, or for each pair of nodes. */
    private static final class Members {
        int size = 0;
        int up = 0;
        final int[] has = new int[MOST_NODES];
        final int[] heard = rowOfNone(MOST_NODES);
        final int[] c1 = new int[MOST_NODES];
        final int[] c2 = new int[MOST_NODES];
        final int[] ave = new int[MOST_NODES];
        final int[] requests = new int[MOST_NODES];
        final int[] repairs = new int[MOST_NODES];
        final int[] duplicates = new int[MOST_NODES];
        final int[] suppressed = new int[MOST_NODES];
        final int[] est = new int[MOST_NODES * MOST_NODES];
        final int[] sent = rowOfNone(MOST_NODES * MOST_NODES);
        final int[] came = rowOfNone(MOST_NODES * MOST_NODES);

        Members() {
            Arrays.fill(ave, 16);
            Arrays.fill(est, 4);
        }

        void copy(Members that) {
            size = that.size;
            up = that.up;
            copyRow(that.has, has);
            copyRow(that.heard, heard);
            copyRow(that.c1, c1);
            copyRow(that.c2, c2);
            copyRow(that.ave, ave);
            copyRow(that.requests, requests);
            copyRow(that.repairs, repairs);
            copyRow(that.duplicates, duplicates);
            copyRow(that.suppressed, suppressed);
            copyRow(that.est, est);
            copyRow(that.sent, sent);
            copyRow(that.came, came);
        }

        void add(boolean isUp, int toldC1, int toldC2) {
            if (size >= MOST_NODES) {
                return;
            }
            up |= isUp ? 1 << size : 0;
            c1[size] = toldC1;
            c2[size] = toldC2;
            size++;
        }

        boolean isUp(int node) {
            return isIn(up, node);
        }

        boolean hasPacket(int node, int packet) {
            return isIn(has[node], packet);
        }

        /** The packets that it heard of and has not. */
        int missing(int node) {
            return bitsBelow(heard[node] + 1) & ~has[node];
        }

        int holdersOf(int packet) {
            int bits = 0;
            for (int node = 0; node < size; node++) {
                bits |= isUp(node) && hasPacket(node, packet) ? 1 << node : 0;
            }
            return bits;
        }

        int allRequests() {
            return sum(requests);
        }

        int allRepairs() {
            return sum(repairs);
        }

        private int sum(int[] row) {
            int all = 0;
            for (int node = 0; node < size && node < row.length; node++) {
                all += row[node];
            }
            return all;
        }

        /** Times are adapted by how much was asked until a packet came. */
        void adapt(int node, int reqs) {
            ave[node] += Math.floorDiv(16 * reqs - ave[node], 4);
            if (ave[node] > 32) {
                c1[node] = Math.min(c1[node] + 1, MOST_FACTOR);
                c2[node] = Math.min(c2[node] + 2, MOST_FACTOR);
            } else if (ave[node] < 20) {
                c1[node] = Math.max(c1[node] - 1, 1);
                c2[node] = Math.max(c2[node] - 1, 2);
            }
        }
    }

    /** What is of a node and a packet: a row has a place for each cell of the two. */
    private static final class Packets {
        static final int CELLS = MOST_NODES * MOST_PACKETS;
        final int[] ask = rowOfNone(CELLS);
        final int[] backed = new int[CELLS];
        final int[] asked = new int[CELLS];
        final int[] reqs = new int[CELLS];
        final int[] ignore = new int[CELLS];
        final int[] answer = rowOfNone(CELLS);
        final int[] answered = rowOfNone(CELLS);
        final int[] answerScope = rowOfNone(CELLS);
        final int[] hold = new int[CELLS];
        final int[] cause = rowOfNone(CELLS);
        final int[] causesBehind = new int[CELLS];
        final int[] from = rowOfNone(CELLS);
        final int[] since = rowOfNone(CELLS);

        void copy(Packets that) {
            copyRow(that.ask, ask);
            copyRow(that.backed, backed);
            copyRow(that.asked, asked);
            copyRow(that.reqs, reqs);
            copyRow(that.ignore, ignore);
            copyRow(that.answer, answer);
            copyRow(that.answered, answered);
            copyRow(that.answerScope, answerScope);
            copyRow(that.hold, hold);
            copyRow(that.cause, cause);
            copyRow(that.causesBehind, causesBehind);
            copyRow(that.from, from);
            copyRow(that.since, since);
        }

        void setGap(int cell, int gap) {
            cause[cell] = gap;
            causesBehind[cell] = 0;
        }

        /**
         * Behind a gap of this kind stand only others of it and, last, the link that lost the packet: so their number
         * tells them all, as they were when the packet was lost, whatever becomes of the nodes above.
         */
        void setGapBehind(int cell, int cellAbove) {
            cause[cell] = GAP_ABOVE;
            causesBehind[cell] = causesBehind[cellAbove] + 1;
        }

        int gapBehind(int cell, int k) {
            if (k < 0 || k > causesBehind[cell]) {
                return NONE;
            }
            return k > 0 && k == causesBehind[cell] ? GAP_LINK : cause[cell];
        }

        void beginAsk(int cell) {
            backed[cell] = 0;
            asked[cell] = 0;
            reqs[cell] = 0;
            ignore[cell] = 0;
        }

        void backOff(int cell) {
            backed[cell] = Math.min(backed[cell] + 1, MOST_BACK);
        }

        void beginAnswer(int cell, int time, int node, int scope) {
            answer[cell] = time;
            answered[cell] = node;
            answerScope[cell] = scope;
        }

        void dropAnswer(int cell) {
            beginAnswer(cell, NONE, NONE, NONE);
        }

        void setGiver(int cell, int giver, int tick) {
            from[cell] = giver;
            since[cell] = tick;
        }
    }

    /** The links, and what is asked of them without regard to delays. */
    private static final class Links {
        int size = 0;
        int cuts = 0;
        final int[] one = new int[MOST_LINKS];
        final int[] other = new int[MOST_LINKS];
        final int[] delay = new int[MOST_LINKS];
        final int[] losing = new int[MOST_LINKS];
        final int[] load = new int[MOST_LINKS];

        void copy(Links that) {
            size = that.size;
            cuts = that.cuts;
            copyRow(that.one, one);
            copyRow(that.other, other);
            copyRow(that.delay, delay);
            copyRow(that.losing, losing);
            copyRow(that.load, load);
        }

        void add(int node, int otherNode, int toldDelay, int toldLoss) {
            if (size >= MOST_LINKS) {
                return;
            }
            one[size] = node;
            other[size] = otherNode;
            delay[size] = toldDelay;
            losing[size] = toldLoss;
            size++;
        }

        boolean isCut(int link) {
            return isIn(cuts, link);
        }

        void addLoad(int link) {
            load[link] = Math.min(load[link] + 1, MOST_LOAD);
        }

        /** The link of two nodes, cut or not; NONE. */
        int between(int node, int otherNode) {
            for (int link = 0; link < size; link++) {
                boolean isSo = one[link] == node && other[link] == otherNode;
                boolean isTurned = one[link] == otherNode && other[link] == node;
                if (isSo || isTurned) {
                    return link;
                }
            }
            return NONE;
        }

        /** The nodes that a node is joined with, and itself, by links that are not among some. */
        private int joined(int node, int without) {
            int bits = 1 << node;
            for (int round = 1; round < MOST_NODES; round++) {
                int before = bits;
                for (int link = 0; link < size; link++) {
                    int ends = 1 << one[link] | 1 << other[link];
                    if (!isIn(without, link) && (bits & ends) != 0) {
                        bits |= ends;
                    }
                }
                if (bits == before) {
                    return bits;
                }
            }
            return bits;
        }

        int bridges() {
            int bits = 0;
            for (int link = 0; link < size; link++) {
                if (!isCut(link) && !isIn(joined(one[link], cuts | 1 << link), other[link])) {
                    bits |= 1 << link;
                }
            }
            return bits;
        }

        /** The fewest links without which a node is joined with none of some nodes; NONE if it needs none. */
        int fewestAround(int node, int some) {
            if ((joined(node, cuts) & some) == 0 || isIn(some, node)) {
                return NONE;
            }
            int found = NONE;
            int fewest = MOST_LINKS + 1;
            for (int bits = 1; bits < 1 << size; bits++) {
                boolean isFewer = (bits & cuts) == 0 && Integer.bitCount(bits) < fewest;
                if (isFewer && (joined(node, cuts | bits) & some) == 0) {
                    found = bits;
                    fewest = Integer.bitCount(bits);
                }
            }
            return found;
        }
    }

    /** The ways and trees: kept, as they change only with the links. A row has a place for each pair, root first. */
    private static final class Ways {
        int nodes = 0;
        final int[] length = rowOfNone(MOST_NODES * MOST_NODES);
        final int[] parent = rowOfNone(MOST_NODES * MOST_NODES);
        final int[] parentLink = rowOfNone(MOST_NODES * MOST_NODES);
        final int[] hops = rowOfNone(MOST_NODES * MOST_NODES);
        final int[] order = rowOfNone(MOST_NODES * MOST_NODES);
        final int[] treeSize = new int[MOST_NODES];

        void copy(Ways that) {
            nodes = that.nodes;
            copyRow(that.length, length);
            copyRow(that.parent, parent);
            copyRow(that.parentLink, parentLink);
            copyRow(that.hops, hops);
            copyRow(that.order, order);
            copyRow(that.treeSize, treeSize);
        }

        void find(Links links, int size) {
            nodes = size;
            Arrays.fill(length, NONE);
            Arrays.fill(parent, NONE);
            Arrays.fill(parentLink, NONE);
            Arrays.fill(hops, NONE);
            for (int root = 0; root < nodes; root++) {
                measure(root, links);
                sort(root);
                hang(root, links);
            }
        }

        private void measure(int root, Links links) {
            length[pair(root, root)] = 0;
            for (int round = 1; round < nodes; round++) {
                for (int link = 0; link < links.size; link++) {
                    if (!links.isCut(link)) {
                        shorten(pair(root, links.one[link]), pair(root, links.other[link]), links.delay[link]);
                        shorten(pair(root, links.other[link]), pair(root, links.one[link]), links.delay[link]);
                    }
                }
            }
        }

        private void shorten(int from, int to, int delay) {
            if (length[from] != NONE && (length[to] == NONE || length[from] + delay < length[to])) {
                length[to] = length[from] + delay;
            }
        }

        /** The nodes of the tree by ways, of like ones by numbers. */
        private void sort(int root) {
            int count = 0;
            for (int node = 0; node < nodes; node++) {
                int way = length[pair(root, node)];
                if (node != root && way != NONE) {
                    int place = count;
                    while (place > 0 && length[pair(root, order[pair(root, place - 1)])] > way) {
                        order[pair(root, place)] = order[pair(root, place - 1)];
                        place--;
                    }
                    order[pair(root, place)] = node;
                    count++;
                }
            }
            treeSize[root] = count;
        }

        /** Goes by the sorted nodes, so that the hops of the one above are known. */
        private void hang(int root, Links links) {
            hops[pair(root, root)] = 0;
            for (int k = 0; k < treeSize[root]; k++) {
                int node = order[pair(root, k)];
                int place = pair(root, node);
                for (int upper = 0; upper < nodes && parent[place] == NONE; upper++) {
                    int link = links.between(upper, node);
                    int way = length[pair(root, upper)];
                    boolean isOpen = link != NONE && !links.isCut(link) && way != NONE;
                    if (isOpen && way + links.delay[link] == length[place]) {
                        parent[place] = upper;
                        parentLink[place] = link;
                        hops[place] = hops[pair(root, upper)] + 1;
                    }
                }
            }
        }

        int nearest(int node, int some) {
            int found = NONE;
            for (int other = 0; other < nodes; other++) {
                int way = length[pair(node, other)];
                boolean isOne = isIn(some, other) && way != NONE;
                if (isOne && (found == NONE || way < length[pair(node, found)])) {
                    found = other;
                }
            }
            return found;
        }

        int within(int node, int scope) {
            int bits = 1 << node;
            for (int k = 0; k < treeSize[node]; k++) {
                int other = order[pair(node, k)];
                bits |= hops[pair(node, other)] <= scope ? 1 << other : 0;
            }
            return bits;
        }

        int linksWithin(int node, int scope) {
            int bits = 0;
            for (int k = 0; k < treeSize[node]; k++) {
                int place = pair(node, order[pair(node, k)]);
                bits |= hops[place] <= scope ? 1 << parentLink[place] : 0;
            }
            return bits;
        }

        int middle() {
            int found = NONE;
            for (int node = 0; node < nodes; node++) {
                if (found == NONE || treeSize[node] > treeSize[found]
                        || treeSize[node] == treeSize[found] && longest(node) < longest(found)) {
                    found = node;
                }
            }
            return found;
        }

        private int longest(int node) {
            int size = treeSize[node];
            return size > 0 ? length[pair(node, order[pair(node, size - 1)])] : 0;
        }

        int fewestCovering(int scope) {
            int all = bitsBelow(nodes);
            int found = all;
            // All nodes together cover all, and no other set has as many: so only fewer ones are tried.
            for (int bits = 0; bits < all; bits++) {
                if (Integer.bitCount(bits) < Integer.bitCount(found) && covered(bits, scope) == all) {
                    found = bits;
                }
            }
            return found;
        }

        private int covered(int some, int scope) {
            int bits = 0;
            for (int node = 0; node < nodes; node++) {
                bits |= isIn(some, node) ? within(node, scope) : 0;
            }
            return bits;
        }
    }

    /** The messages on their way, in the order in which they were sent. */
    private static final class Air {
        int size = 0;
        final int[] due = new int[MOST_MESSAGES];
        final int[] to = new int[MOST_MESSAGES];
        final int[] from = new int[MOST_MESSAGES];
        final int[] kind = new int[MOST_MESSAGES];
        final int[] packet = new int[MOST_MESSAGES];
        final int[] heard = new int[MOST_MESSAGES];
        final int[] scope = new int[MOST_MESSAGES];
        final int[] time = new int[MOST_MESSAGES];
        final int[] echoSent = new int[MOST_MESSAGES];
        final int[] echoAge = new int[MOST_MESSAGES];

        void copy(Air that) {
            size = that.size;
            copyRow(that.due, due);
            copyRow(that.to, to);
            copyRow(that.from, from);
            copyRow(that.kind, kind);
            copyRow(that.packet, packet);
            copyRow(that.heard, heard);
            copyRow(that.scope, scope);
            copyRow(that.time, time);
            copyRow(that.echoSent, echoSent);
            copyRow(that.echoAge, echoAge);
        }

        boolean isFull() {
            return size >= MOST_MESSAGES;
        }

        void dropDue(int tick) {
            int left = 0;
            for (int k = 0; k < size; k++) {
                if (due[k] > tick) {
                    if (left < k) {
                        move(k, left);
                    }
                    left++;
                }
            }
            size = left;
        }

        private void move(int k, int place) {
            due[place] = due[k];
            to[place] = to[k];
            from[place] = from[k];
            kind[place] = kind[k];
            packet[place] = packet[k];
            heard[place] = heard[k];
            scope[place] = scope[k];
            time[place] = time[k];
            echoSent[place] = echoSent[k];
            echoAge[place] = echoAge[k];
        }
    }

    /** The latest rows of the log, the oldest making place for the newest. */
    private static final class Log {
        static final int WIDTH = 4;
        int size = 0;
        private int latest = 0;
        private final int[] rows = new int[MOST_ROWS * WIDTH];

        void copy(Log that) {
            size = that.size;
            latest = that.latest;
            copyRow(that.rows, rows);
        }

        void put(int tick, int node, int kind, int packet) {
            latest = (latest + 1) % MOST_ROWS;
            rows[latest * WIDTH] = tick;
            rows[latest * WIDTH + 1] = node;
            rows[latest * WIDTH + 2] = kind;
            rows[latest * WIDTH + 3] = packet;
            size = Math.min(size + 1, MOST_ROWS);
        }

        int told(int ago, int what) {
            if (ago < 0 || ago >= size || what < 0 || what >= WIDTH) {
                return NONE;
            }
            return rows[(latest - ago + MOST_ROWS) % MOST_ROWS * WIDTH + what];
        }
    }

    /** All that an image keeps, and how it goes on tick by tick. */
    private static final class World {
        final Told told = new Told();
        final Chance chance = new Chance();
        final Members members = new Members();
        final Packets packets = new Packets();
        final Links links = new Links();
        final Ways ways = new Ways();
        final Air air = new Air();
        final Log log = new Log();
        int texts = 0;
        int next = 0;
        int crowd = 0;
        int alone = 0;
        int tick = 0;
        int got = 0;

        void copy(World that) {
            told.copy(that.told);
            chance.copy(that.chance);
            members.copy(that.members);
            packets.copy(that.packets);
            links.copy(that.links);
            ways.copy(that.ways);
            air.copy(that.air);
            log.copy(that.log);
            texts = that.texts;
            next = that.next;
            crowd = that.crowd;
            alone = that.alone;
            tick = that.tick;
            got = that.got;
        }

        void findWays() {
            ways.find(links, members.size);
        }

        void step() {
            for (int k = 0; k < air.size; k++) {
                if (air.due[k] <= tick) {
                    hear(k);
                }
            }
            air.dropDue(tick);
            for (int node = 0; node < members.size; node++) {
                if (members.isUp(node)) {
                    act(node);
                }
            }
            if (told.rate > 0 && tick % told.rate == 0 && canSend()) {
                sendNext();
            }
            tick++;
        }

        boolean canSend() {
            return told.source < members.size && members.isUp(told.source) && next < MOST_PACKETS;
        }

        void sendNext() {
            int source = told.source;
            int packet = next;
            next++;
            members.has[source] |= 1 << packet;
            members.heard[source] = packet;
            packets.setGiver(cell(source, packet), source, tick);
            log.put(tick, source, ROW_SENT, packet);
            flood(source, DATA, packet, MOST_SCOPE);
        }

        void handOver(int node, int packet) {
            int cell = cell(node, packet);
            members.has[node] |= 1 << packet;
            members.heard[node] = Math.max(members.heard[node], packet);
            packets.setGiver(cell, node, tick);
            packets.ask[cell] = NONE;
            packets.setGap(cell, NONE);
        }

        void takeAway(int node, int packet) {
            int cell = cell(node, packet);
            members.has[node] &= ~(1 << packet);
            packets.setGiver(cell, NONE, NONE);
            packets.dropAnswer(cell);
            packets.setGap(cell, GAP_TAKEN);
        }

        boolean isWhole() {
            int all = bitsBelow(next);
            for (int node = 0; node < members.size; node++) {
                if (members.isUp(node) && (members.has[node] & all) != all) {
                    return false;
                }
            }
            return true;
        }

        int askWindow(int node, int packet, boolean late) {
            int cell = cell(node, packet);
            if (packets.ask[cell] == NONE) {
                return NONE;
            }
            int far = sourceDistance(node);
            int drawn = late ? members.c2[node] * far / 4 : 0;
            return timeOf(members.c1[node] * far / 4 + drawn, packets.backed[cell]);
        }

        private int timeOf(int length, int backed) {
            return tick + Math.max(1, length << backed);
        }

        private int sourceDistance(int node) {
            return node == told.source ? 1 : members.est[pair(node, told.source)];
        }

        private void setAsk(int node, int cell) {
            int far = sourceDistance(node);
            int drawn = chance.upTo(members.c2[node] * far / 4);
            packets.ask[cell] = timeOf(members.c1[node] * far / 4 + drawn, packets.backed[cell]);
        }

        private void askLater(int node, int cell) {
            packets.backOff(cell);
            setAsk(node, cell);
            packets.ignore[cell] = tick + (packets.ask[cell] - tick) / 2;
        }

        private void setAnswer(int node, int cell, int asker, int scope) {
            int far = members.est[pair(node, asker)];
            int drawn = chance.upTo(told.d2 * far / 4);
            packets.beginAnswer(cell, timeOf(told.d1 * far / 4 + drawn, 0), asker, scope);
        }

        private void rest(int node, int cell, int other) {
            packets.hold[cell] = tick + 3 * members.est[pair(node, other)];
        }

        private void hear(int k) {
            int node = air.to[k];
            int kind = air.kind[k];
            if (!members.isUp(node)) {
                if (kind == DATA && !members.hasPacket(node, air.packet[k])) {
                    packets.setGap(cell(node, air.packet[k]), GAP_DOWN);
                }
                return;
            }
            if (kind == REPORT) {
                hearReport(node, k);
            }
            if (kind == DATA || kind == REPAIR) {
                hearPacket(node, k);
            }
            hearOf(node, air.heard[k]);
            if (kind == REQUEST) {
                hearRequest(node, k);
            }
        }

        private void hearReport(int node, int k) {
            int place = pair(node, air.from[k]);
            members.sent[place] = air.time[k];
            members.came[place] = tick;
            if (air.echoSent[k] != NONE) {
                members.est[place] = Math.max(1, (tick - air.echoSent[k] - air.echoAge[k]) / 2);
            }
        }

        private void hearPacket(int node, int k) {
            int packet = air.packet[k];
            int cell = cell(node, packet);
            boolean isRepair = air.kind[k] == REPAIR;
            if (!members.hasPacket(node, packet)) {
                getPacket(node, packet, air.from[k]);
            } else if (isRepair) {
                members.duplicates[node]++;
            }
            if (packets.answer[cell] != NONE) {
                packets.dropAnswer(cell);
                members.suppressed[node]++;
            }
            if (isRepair) {
                rest(node, cell, air.from[k]);
            }
        }

        private void getPacket(int node, int packet, int from) {
            int cell = cell(node, packet);
            members.has[node] |= 1 << packet;
            packets.setGap(cell, NONE);
            packets.setGiver(cell, from, tick);
            log.put(tick, node, ROW_GOT, packet);
            got++;
            if (packets.ask[cell] != NONE) {
                packets.ask[cell] = NONE;
                members.adapt(node, packets.reqs[cell]);
            }
        }

        private void hearOf(int node, int heard) {
            members.heard[node] = Math.max(members.heard[node], heard);
            int missing = members.missing(node);
            for (int packet = 0; packet < MOST_PACKETS && missing >> packet != 0; packet++) {
                int cell = cell(node, packet);
                if (isIn(missing, packet) && packets.ask[cell] == NONE) {
                    packets.beginAsk(cell);
                    setAsk(node, cell);
                }
            }
        }

        private void hearRequest(int node, int k) {
            int packet = air.packet[k];
            int cell = cell(node, packet);
            if (members.hasPacket(node, packet)) {
                if (packets.answer[cell] == NONE && tick >= packets.hold[cell]) {
                    setAnswer(node, cell, air.from[k], air.scope[k]);
                }
                return;
            }
            packets.reqs[cell]++;
            if (tick >= packets.ignore[cell]) {
                askLater(node, cell);
                members.suppressed[node]++;
            }
        }

        private void act(int node) {
            int[] ask = packets.ask;
            int[] answer = packets.answer;
            int cell = cell(node, 0);
            // Nothing is asked or answered above what was heard of.
            for (int packet = 0; packet <= members.heard[node]; packet++) {
                if (ask[cell] != NONE && ask[cell] <= tick) {
                    request(node, packet);
                } else if (answer[cell] != NONE && answer[cell] <= tick) {
                    repair(node, packet);
                }
                cell++;
            }
            if (told.period > 0 && (tick + node) % told.period == 0) {
                flood(node, REPORT, NONE, MOST_SCOPE);
            }
        }

        private void request(int node, int packet) {
            int cell = cell(node, packet);
            askLater(node, cell);
            log.put(tick, node, ROW_REQUEST, packet);
            flood(node, REQUEST, packet, Math.min(told.scope + packets.asked[cell], MOST_SCOPE));
            packets.asked[cell]++;
            packets.reqs[cell]++;
            members.requests[node]++;
        }

        private void repair(int node, int packet) {
            int cell = cell(node, packet);
            int scope = packets.answerScope[cell];
            rest(node, cell, packets.answered[cell]);
            packets.dropAnswer(cell);
            members.repairs[node]++;
            log.put(tick, node, ROW_REPAIR, packet);
            flood(node, REPAIR, packet, scope);
        }

        private void flood(int sender, int kind, int packet, int scope) {
            int reached = 1 << sender;
            int size = ways.treeSize[sender];
            alone += size == 0 ? 1 : 0;
            for (int k = 0; k < size; k++) {
                int node = ways.order[pair(sender, k)];
                int place = pair(sender, node);
                int link = ways.parentLink[place];
                int gap = NONE;
                if (!isIn(reached, ways.parent[place]) || ways.hops[place] > scope) {
                    gap = GAP_ABOVE;
                } else if (!crosses(link)) {
                    gap = GAP_LINK;
                } else {
                    reached |= 1 << node;
                    gap = air.isFull() ? GAP_CROWD : NONE;
                    launch(sender, node, kind, packet, scope);
                }
                if (kind == DATA) {
                    tellGap(node, packet, gap, ways.parent[place]);
                }
            }
            if (kind == DATA) {
                tellNoWay(sender, packet);
            }
        }

        private boolean crosses(int link) {
            links.addLoad(link);
            return chance.mode != DRAWN || chance.upTo(MOST_LOSS - 1) >= links.losing[link];
        }

        private void launch(int sender, int node, int kind, int packet, int scope) {
            if (air.isFull()) {
                crowd++;
                return;
            }
            int k = air.size;
            int report = pair(sender, node);
            boolean echoes = kind == REPORT && members.sent[report] != NONE;
            air.due[k] = tick + ways.length[report];
            air.to[k] = node;
            air.from[k] = sender;
            air.kind[k] = kind;
            air.packet[k] = packet;
            air.heard[k] = members.heard[sender];
            air.scope[k] = scope;
            air.time[k] = tick;
            air.echoSent[k] = echoes ? members.sent[report] : NONE;
            air.echoAge[k] = echoes ? tick - members.came[report] : 0;
            air.size++;
        }

        private void tellGap(int node, int packet, int gap, int above) {
            if (gap == GAP_ABOVE) {
                packets.setGapBehind(cell(node, packet), cell(above, packet));
            } else {
                packets.setGap(cell(node, packet), gap);
            }
        }

        private void tellNoWay(int sender, int packet) {
            for (int node = 0; node < members.size; node++) {
                if (ways.length[pair(sender, node)] == NONE) {
                    packets.setGap(cell(node, packet), GAP_NO_WAY);
                }
            }
        }
    }
}

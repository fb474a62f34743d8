import java.util.ArrayList;
import java.util.Arrays;
import java.util.HashSet;
import java.util.List;
import java.util.NoSuchElementException;
import java.util.Set;

/** The document's words once more, written for being read and not for speed: ModelTest holds RepairTalk against it. */
final class Model {
    static final int NONE = -1;

    static final class Gap {
        final int why;
        final Gap behind;

        Gap(int why, Gap behind) {
            this.why = why;
            this.behind = behind;
        }
    }

    static final class Cell implements Cloneable {
        Integer ask;
        int back, asked, reqs, ignore;
        Integer answer;
        int answered = NONE, answerScope = NONE;
        int hold;
        Gap gap;
        Integer from, when;

        Cell twin() {
            try {
                return (Cell) clone();
            } catch (CloneNotSupportedException e) {
                throw new AssertionError(e);
            }
        }
    }

    static final class Member {
        boolean up;
        Set<Integer> has = new HashSet<>();
        int heard = NONE;
        int[] est = {4, 4, 4, 4, 4, 4};
        Integer[] sent = new Integer[6];
        Integer[] came = new Integer[6];
        int c1, c2, ave = 16;
        int requests, repairs, duplicates, suppressed;
        Cell[] cells = new Cell[12];

        Member twin() {
            Member m = new Member();
            m.up = up;
            m.has = new HashSet<>(has);
            m.heard = heard;
            m.est = est.clone();
            m.sent = sent.clone();
            m.came = came.clone();
            m.c1 = c1;
            m.c2 = c2;
            m.ave = ave;
            m.requests = requests;
            m.repairs = repairs;
            m.duplicates = duplicates;
            m.suppressed = suppressed;
            for (int p = 0; p < 12; p++) {
                m.cells[p] = cells[p].twin();
            }
            return m;
        }
    }

    static final class Edge {
        int a, b, delay, loss, load;
        boolean cut;

        Edge twin() {
            Edge e = new Edge();
            e.a = a;
            e.b = b;
            e.delay = delay;
            e.loss = loss;
            e.load = load;
            e.cut = cut;
            return e;
        }
    }

    static final class Note {
        int due, to, from, kind, packet, heard, scope, time;
        Integer echo;
        int age;
    }

    static final class State {
        List<Member> members = new ArrayList<>();
        List<Edge> edges = new ArrayList<>();
        List<Note> notes = new ArrayList<>();
        List<int[]> log = new ArrayList<>();
        int source, next, scope = 5, period, rate, c1 = 8, c2 = 8, d1 = 4, d2 = 4;
        int crowd, alone, tick, texts, seed = 1;
        int got, requests, repairs;
        /** 0 as drawn, 1 early, 2 late. */
        int ahead;

        State twin() {
            State s = new State();
            for (Member m : members) {
                s.members.add(m.twin());
            }
            for (Edge e : edges) {
                s.edges.add(e.twin());
            }
            s.notes = new ArrayList<>(notes);
            s.log = new ArrayList<>(log);
            s.source = source;
            s.next = next;
            s.scope = scope;
            s.period = period;
            s.rate = rate;
            s.c1 = c1;
            s.c2 = c2;
            s.d1 = d1;
            s.d2 = d2;
            s.crowd = crowd;
            s.alone = alone;
            s.tick = tick;
            s.texts = texts;
            s.seed = seed;
            s.got = got;
            s.requests = requests;
            s.repairs = repairs;
            s.ahead = ahead;
            return s;
        }

        int draw() {
            seed = (int) (1103515245L * seed + 12345L);
            return (seed >> 16) & 32767;
        }

        Edge edge(int a, int b) {
            for (Edge e : edges) {
                if (e.a == a && e.b == b || e.a == b && e.b == a) {
                    return e;
                }
            }
            return null;
        }

        /** Floyd's, without some links; a large number where there is no way. */
        int[][] ways(int without) {
            int n = members.size();
            int[][] w = new int[n][n];
            for (int[] row : w) {
                Arrays.fill(row, 100000);
            }
            for (int i = 0; i < n; i++) {
                w[i][i] = 0;
            }
            for (int i = 0; i < edges.size(); i++) {
                Edge e = edges.get(i);
                if (!e.cut && (without & 1 << i) == 0) {
                    w[e.a][e.b] = e.delay;
                    w[e.b][e.a] = e.delay;
                }
            }
            for (int k = 0; k < n; k++) {
                for (int i = 0; i < n; i++) {
                    for (int j = 0; j < n; j++) {
                        w[i][j] = Math.min(w[i][j], w[i][k] + w[k][j]);
                    }
                }
            }
            return w;
        }

        int above(int root, int node) {
            int[][] w = ways(0);
            if (root == node || w[root][node] >= 100000) {
                return NONE;
            }
            for (int y = 0; y < members.size(); y++) {
                Edge e = edge(y, node);
                if (e != null && !e.cut && w[root][y] + e.delay == w[root][node]) {
                    return y;
                }
            }
            throw new AssertionError("a way without one above");
        }

        int hops(int root, int node) {
            if (root == node) {
                return 0;
            }
            int y = above(root, node);
            return y == NONE ? NONE : 1 + hops(root, y);
        }

        List<Integer> tree(int root) {
            int[][] w = ways(0);
            List<Integer> all = new ArrayList<>();
            for (int i = 0; i < members.size(); i++) {
                if (i != root && w[root][i] < 100000) {
                    all.add(i);
                }
            }
            all.sort((x, y) -> w[root][x] != w[root][y] ? w[root][x] - w[root][y] : x - y);
            return all;
        }

        int time(int first, int second, int far, int back) {
            int modulus = second * far / 4 + 1;
            int drawn = ahead == 0 ? draw() % modulus : ahead == 1 ? 0 : modulus - 1;
            return tick + Math.max(1, (first * far / 4 + drawn) * (1 << back));
        }

        int farOff(int node) {
            return node == source ? 1 : members.get(node).est[source];
        }

        void flood(int sender, int kind, int packet, int scope) {
            List<Integer> tree = tree(sender);
            int[][] w = ways(0);
            Member s = members.get(sender);
            Set<Integer> reached = new HashSet<>();
            reached.add(sender);
            if (tree.isEmpty()) {
                alone++;
            }
            for (int x : tree) {
                int y = above(sender, x);
                Gap gap = null;
                if (!reached.contains(y)) {
                    gap = kind == 0 ? new Gap(1, members.get(y).cells[packet].gap) : null;
                } else if (hops(sender, x) <= scope) {
                    Edge e = edge(x, y);
                    e.load = e.load == 9999 ? 9999 : e.load + 1;
                    boolean passes = ahead != 0 || draw() % 100 >= e.loss;
                    if (!passes) {
                        gap = new Gap(0, null);
                    } else {
                        reached.add(x);
                        if (notes.size() == 64) {
                            crowd++;
                            gap = new Gap(3, null);
                        } else {
                            Note m = new Note();
                            m.due = tick + w[sender][x];
                            m.to = x;
                            m.from = sender;
                            m.kind = kind;
                            m.packet = packet;
                            m.heard = s.heard;
                            m.scope = scope;
                            m.time = tick;
                            if (kind == 3 && s.sent[x] != null) {
                                m.echo = s.sent[x];
                                m.age = tick - s.came[x];
                            }
                            notes.add(m);
                        }
                    }
                }
                if (kind == 0) {
                    members.get(x).cells[packet].gap = gap;
                }
            }
            for (int x = 0; kind == 0 && x < members.size(); x++) {
                if (x != sender && !tree.contains(x)) {
                    members.get(x).cells[packet].gap = new Gap(2, null);
                }
            }
        }

        void put(int node, int kind, int packet) {
            log.add(0, new int[] {tick, node, kind, packet});
            if (log.size() > 60) {
                log.remove(60);
            }
        }

        void hear(Note m) {
            Member x = members.get(m.to);
            Cell c = m.packet == NONE ? null : x.cells[m.packet];
            if (!x.up) {
                if (m.kind == 0 && !x.has.contains(m.packet)) {
                    c.gap = new Gap(4, null);
                }
                return;
            }
            if (m.kind == 3) {
                x.sent[m.from] = m.time;
                x.came[m.from] = tick;
                if (m.echo != null) {
                    x.est[m.from] = Math.max(1, Math.floorDiv(tick - m.echo - m.age, 2));
                }
            }
            if (m.kind == 0 || m.kind == 2) {
                hearPacket(x, c, m);
            }
            x.heard = Math.max(x.heard, m.heard);
            for (int p = 0; p <= x.heard; p++) {
                Cell d = x.cells[p];
                if (!x.has.contains(p) && d.ask == null) {
                    d.back = 0;
                    d.asked = 0;
                    d.reqs = 0;
                    d.ignore = 0;
                    d.ask = time(x.c1, x.c2, farOff(m.to), 0);
                }
            }
            if (m.kind == 1 && x.has.contains(m.packet)) {
                if (c.answer == null && tick >= c.hold) {
                    c.answer = time(d1, d2, x.est[m.from], 0);
                    c.answered = m.from;
                    c.answerScope = m.scope;
                }
            } else if (m.kind == 1) {
                c.reqs++;
                if (tick >= c.ignore) {
                    c.back = Math.min(5, c.back + 1);
                    c.ask = time(x.c1, x.c2, farOff(m.to), c.back);
                    c.ignore = tick + (c.ask - tick) / 2;
                    x.suppressed++;
                }
            }
        }

        void hearPacket(Member x, Cell c, Note m) {
            if (x.has.add(m.packet)) {
                c.gap = null;
                c.from = m.from;
                c.when = tick;
                got++;
                put(m.to, 3, m.packet);
                if (c.ask != null) {
                    c.ask = null;
                    x.ave += Math.floorDiv(16 * c.reqs - x.ave, 4);
                    if (x.ave > 32) {
                        x.c1 = Math.min(32, x.c1 + 1);
                        x.c2 = Math.min(32, x.c2 + 2);
                    } else if (x.ave < 20) {
                        x.c1 = Math.max(1, x.c1 - 1);
                        x.c2 = Math.max(2, x.c2 - 1);
                    }
                }
            } else if (m.kind == 2) {
                x.duplicates++;
            }
            if (c.answer != null) {
                c.answer = null;
                x.suppressed++;
            }
            if (m.kind == 2) {
                c.hold = tick + 3 * x.est[m.from];
            }
        }

        void step() {
            List<Note> due = new ArrayList<>();
            for (Note m : notes) {
                if (m.due <= tick) {
                    due.add(m);
                }
            }
            for (Note m : due) {
                hear(m);
            }
            notes.removeAll(due);
            for (int i = 0; i < members.size(); i++) {
                Member x = members.get(i);
                for (int p = 0; x.up && p < 12; p++) {
                    act(i, x, p);
                }
                if (x.up && period > 0 && (tick + i) % period == 0) {
                    flood(i, 3, NONE, 5);
                }
            }
            if (rate > 0 && tick % rate == 0 && canSend()) {
                send();
            }
            tick++;
        }

        void act(int i, Member x, int p) {
            Cell c = x.cells[p];
            if (c.ask != null && c.ask <= tick) {
                c.back = Math.min(5, c.back + 1);
                c.ask = time(x.c1, x.c2, farOff(i), c.back);
                c.ignore = tick + (c.ask - tick) / 2;
                flood(i, 1, p, Math.min(5, scope + c.asked));
                c.asked++;
                c.reqs++;
                x.requests++;
                requests++;
                put(i, 1, p);
            } else if (c.answer != null && c.answer <= tick) {
                c.answer = null;
                c.hold = tick + 3 * x.est[c.answered];
                x.repairs++;
                repairs++;
                flood(i, 2, p, c.answerScope);
                put(i, 2, p);
            }
        }

        boolean canSend() {
            return source < members.size() && members.get(source).up && next < 12;
        }

        void send() {
            Member s = members.get(source);
            int p = next++;
            s.has.add(p);
            s.heard = p;
            s.cells[p].from = source;
            s.cells[p].when = tick;
            flood(source, 0, p, 5);
            put(source, 0, p);
        }

        boolean whole() {
            for (Member m : members) {
                for (int p = 0; p < next; p++) {
                    if (m.up && !m.has.contains(p)) {
                        return false;
                    }
                }
            }
            return true;
        }

        List<Integer> holders(int packet) {
            List<Integer> all = new ArrayList<>();
            for (int i = 0; i < members.size(); i++) {
                if (members.get(i).up && members.get(i).has.contains(packet)) {
                    all.add(i);
                }
            }
            return all;
        }

        int reach(int node, int scope) {
            int bits = 0;
            for (int i = 0; i < members.size(); i++) {
                int h = hops(node, i);
                if (h != NONE && h <= scope) {
                    bits |= 1 << i;
                }
            }
            return bits;
        }
    }

    State now = new State();
    State kept;
    String tape = "";
    int fault = NONE;

    int feed(int... numbers) {
        if (tape.length() + 20 > 400) {
            return NONE;
        }
        StringBuilder more = new StringBuilder();
        for (int n : numbers) {
            for (int i = 3; i >= 0; i--) {
                more.append((char) (n >> 8 * i & 255));
            }
        }
        tape += more;
        return tape.length();
    }

    boolean end(int n) {
        if (n < 0 || n > tape.length()) {
            return false;
        }
        tape = tape.substring(0, n);
        return true;
    }

    static final class Wrong extends Exception {
        private static final long serialVersionUID = 1L;
        final int at;

        Wrong(int at) {
            super("wrong at " + at, null, false, false);
            this.at = at;
        }
    }

    /** Words, numbers and single signs, with the places where they begin. */
    static final class Things {
        final List<String> things = new ArrayList<>();
        final List<Integer> places = new ArrayList<>();
        int at;

        Things(String text) {
            int i = 0;
            while (i < text.length()) {
                int j = i + 1;
                String class0 = classOf(text.charAt(i));
                while (j < text.length() && !class0.equals("sign") && classOf(text.charAt(j)).equals(class0)) {
                    j++;
                }
                if (!class0.equals("blank")) {
                    things.add(text.substring(i, j));
                    places.add(i);
                }
                i = j;
            }
            things.add("");
            places.add(text.length());
        }

        static String classOf(char c) {
            return c == ' ' ? "blank" : c >= 'a' && c <= 'z' ? "word" : c >= '0' && c <= '9' ? "number" : "sign";
        }

        String thing() {
            return things.get(at);
        }

        Wrong wrong() {
            return new Wrong(places.get(at));
        }

        void word(String w) throws Wrong {
            if (!thing().equals(w)) {
                throw wrong();
            }
            at++;
        }

        int number(int least, int most) throws Wrong {
            if (!thing().matches("[0-9]{1,3}")) {
                throw wrong();
            }
            int n = Integer.parseInt(thing());
            if (n < least || n > most) {
                throw wrong();
            }
            at++;
            return n;
        }
    }

    void line(State s, Things t) throws Wrong {
        switch (t.thing()) {
            case "node":
                if (s.members.size() == 6) {
                    throw t.wrong();
                }
                t.at++;
                Member m = new Member();
                m.up = true;
                if (t.thing().equals("down")) {
                    m.up = false;
                    t.at++;
                }
                m.c1 = s.c1;
                m.c2 = s.c2;
                for (int p = 0; p < 12; p++) {
                    m.cells[p] = new Cell();
                }
                s.members.add(m);
                break;
            case "link":
                if (s.edges.size() == 10) {
                    throw t.wrong();
                }
                t.at++;
                Edge e = new Edge();
                e.a = t.number(0, s.members.size() - 1);
                e.b = t.number(0, s.members.size() - 1);
                if (e.a == e.b || s.edge(e.a, e.b) != null) {
                    t.at--;
                    throw t.wrong();
                }
                t.word("delay");
                e.delay = t.number(1, 9);
                t.word("loss");
                e.loss = t.number(0, 100);
                s.edges.add(e);
                break;
            case "source":
                t.at++;
                s.source = t.number(0, s.members.size() - 1);
                break;
            case "request":
                t.at++;
                s.c1 = t.number(0, 32);
                s.c2 = t.number(0, 32);
                for (Member each : s.members) {
                    each.c1 = s.c1;
                    each.c2 = s.c2;
                }
                break;
            case "repair":
                t.at++;
                s.d1 = t.number(0, 32);
                s.d2 = t.number(0, 32);
                break;
            case "scope":
                t.at++;
                s.scope = t.number(1, 5);
                break;
            case "session":
                t.at++;
                s.period = t.number(0, 20);
                break;
            case "rate":
                t.at++;
                s.rate = t.number(0, 20);
                break;
            default:
                throw t.wrong();
        }
    }

    void read(State s, String text) throws Wrong {
        Things t = new Things(text);
        if (t.things.size() == 1) {
            return;
        }
        for (int lines = 1;; lines++) {
            if (lines == 15) {
                throw t.wrong();
            }
            line(s, t);
            if (t.thing().isEmpty()) {
                return;
            }
            t.word(";");
        }
    }

    int group() {
        State s = now.twin();
        String text = tape;
        tape = "";
        fault = NONE;
        try {
            read(s, text);
        } catch (Wrong w) {
            fault = w.at;
            throw new IllegalArgumentException();
        }
        if (now.texts == 12) {
            throw new UnsupportedOperationException();
        }
        now = s;
        return ++now.texts;
    }

    int fault() {
        return fault;
    }

    Member member(int node) {
        if (node < 0 || node >= now.members.size()) {
            throw new IndexOutOfBoundsException();
        }
        return now.members.get(node);
    }

    Cell cell(int node, int packet) {
        Member m = member(node);
        packet(packet);
        return m.cells[packet];
    }

    static void packet(int packet) {
        if (packet < 0 || packet > 11) {
            throw new IndexOutOfBoundsException();
        }
    }

    Edge edge(int link) {
        if (link < 0 || link >= now.edges.size()) {
            throw new IndexOutOfBoundsException();
        }
        return now.edges.get(link);
    }

    static void number(int n, int least, int most) {
        if (n < least || n > most) {
            throw new IllegalArgumentException();
        }
    }

    static int or(Integer n) {
        return n == null ? NONE : n;
    }

    static int bits(Iterable<Integer> set) {
        int bits = 0;
        for (int i : set) {
            bits |= 1 << i;
        }
        return bits;
    }

    int node(int node, int what) {
        Member m = member(node);
        int missing = 0;
        for (int p = 0; p <= m.heard; p++) {
            missing |= m.has.contains(p) ? 0 : 1 << p;
        }
        int[] all = {m.up ? 1 : 0, bits(m.has), m.heard, missing, m.c1, m.c2, m.ave, m.requests, m.repairs,
            m.duplicates, m.suppressed};
        return pick(all, what);
    }

    static int pick(int[] all, int what) {
        if (what < 0 || what >= all.length) {
            throw new NoSuchElementException();
        }
        return all[what];
    }

    int est(int node, int other) {
        member(other);
        Member m = member(node);
        if (node == other) {
            throw new IllegalArgumentException();
        }
        return m.est[other];
    }

    int timer(int node, int packet, int what) {
        Cell c = cell(node, packet);
        boolean a = c.ask != null;
        int[] all = {or(c.ask), a ? c.back : NONE, a ? c.ignore : NONE, a ? c.asked : NONE, a ? c.reqs : NONE,
            or(c.answer), c.answer == null ? NONE : c.answered, c.hold};
        return pick(all, what);
    }

    int gap(int node, int packet, int k) {
        Gap g = cell(node, packet).gap;
        for (int i = 0; i < k && g != null; i++) {
            g = g.behind;
        }
        return k < 0 || g == null ? NONE : g.why;
    }

    int link(int link, int what) {
        Edge e = edge(link);
        return pick(new int[] {e.a, e.b, e.delay, e.loss, e.cut ? 1 : 0, e.load}, what);
    }

    int flight(int k, int what) {
        if (k < 0 || k >= now.notes.size()) {
            throw new IndexOutOfBoundsException();
        }
        Note m = now.notes.get(k);
        return pick(new int[] {m.due, m.to, m.from, m.kind, m.packet, m.heard}, what);
    }

    int ticks(int n) {
        number(n, 1, 60);
        int before = now.got;
        for (int i = 0; i < n; i++) {
            now.step();
        }
        return now.got - before;
    }

    int send() {
        if (!now.canSend()) {
            throw new IllegalStateException();
        }
        now.send();
        return now.next - 1;
    }

    boolean wake(int node, boolean is) {
        Member m = member(node);
        boolean was = m.up;
        m.up = is;
        return was != is;
    }

    boolean cut(int link, boolean is) {
        Edge e = edge(link);
        boolean was = e.cut;
        e.cut = is;
        return was != is;
    }

    int loss(int link, int n) {
        Edge e = edge(link);
        number(n, 0, 100);
        int was = e.loss;
        e.loss = n;
        return was;
    }

    boolean give(int node, int packet, boolean is) {
        Member m = member(node);
        Cell c = cell(node, packet);
        if (packet >= now.next) {
            throw new IllegalStateException();
        }
        if (m.has.contains(packet) == is) {
            return false;
        }
        if (is) {
            m.has.add(packet);
            c.from = node;
            c.when = now.tick;
            c.ask = null;
            c.gap = null;
            m.heard = Math.max(m.heard, packet);
        } else {
            m.has.remove(packet);
            c.answer = null;
            c.from = null;
            c.when = null;
            c.gap = new Gap(5, null);
        }
        return true;
    }

    int way(int node, int other, boolean hops) {
        member(node);
        member(other);
        int w = now.ways(0)[node][other];
        return hops ? now.hops(node, other) : w >= 100000 ? NONE : w;
    }

    int above(int node, int other) {
        member(node);
        member(other);
        return now.above(node, other);
    }

    int window(int node, int packet, boolean late) {
        Cell c = cell(node, packet);
        if (c.ask == null) {
            return NONE;
        }
        State s = now.twin();
        s.ahead = late ? 2 : 1;
        return s.time(member(node).c1, member(node).c2, s.farOff(node), c.back);
    }

    int near(int node, int packet) {
        cell(node, packet);
        int best = NONE;
        for (int h : now.holders(packet)) {
            int w = way(node, h, false);
            if (w != NONE && (best == NONE || w < way(node, best, false))) {
                best = h;
            }
        }
        return best;
    }

    int reach(int node, int scope) {
        member(node);
        number(scope, 0, 5);
        return now.reach(node, scope);
    }

    int far(int node, int packet) {
        cell(node, packet);
        int best = NONE;
        for (int h : now.holders(packet)) {
            int d = now.hops(node, h);
            if (d != NONE && (best == NONE || d < best)) {
                best = d;
            }
        }
        return best;
    }

    State ahead(boolean late) {
        State s = now.twin();
        s.ahead = late ? 2 : 1;
        s.requests = 0;
        s.repairs = 0;
        return s;
    }

    int whole(boolean late) {
        State s = ahead(late);
        for (int n = 0; n <= 120; n++) {
            if (s.whole()) {
                return n;
            }
            s.step();
        }
        return NONE;
    }

    int talk(int n, boolean late, boolean repairs) {
        number(n, 0, 120);
        State s = ahead(late);
        for (int i = 0; i < n; i++) {
            s.step();
        }
        return repairs ? s.repairs : s.requests;
    }

    int parts() {
        int bits = 0;
        int[][] w = now.ways(0);
        for (int l = 0; l < now.edges.size(); l++) {
            int[][] v = now.ways(1 << l);
            boolean parts = false;
            for (int i = 0; i < w.length; i++) {
                for (int j = 0; j < w.length; j++) {
                    parts |= w[i][j] < 100000 && v[i][j] >= 100000;
                }
            }
            bits |= parts ? 1 << l : 0;
        }
        return bits;
    }

    int giver(int node, int packet, int k) {
        cell(node, packet);
        List<Integer> all = new ArrayList<>();
        Integer from = cell(node, packet).from;
        if (from != null) {
            all.add(from);
            from = cell(from, packet).from;
            while (from != null && from != node && !all.contains(from)) {
                all.add(from);
                from = cell(from, packet).from;
            }
        }
        return k < 0 || k >= all.size() ? NONE : all.get(k);
    }

    int when(int node, int packet) {
        return or(cell(node, packet).when);
    }

    int route(int node, int other, int k) {
        member(node);
        member(other);
        List<Integer> all = new ArrayList<>();
        if (now.hops(node, other) != NONE) {
            for (int at = other; at != NONE; at = now.above(node, at)) {
                all.add(0, at);
            }
        }
        return k < 0 || k >= all.size() ? NONE : all.get(k);
    }

    int crossed(int node, int scope) {
        member(node);
        number(scope, 0, 5);
        int bits = 0;
        for (int i : now.tree(node)) {
            if (now.hops(node, i) <= scope) {
                bits |= 1 << now.edges.indexOf(now.edge(i, now.above(node, i)));
            }
        }
        return bits;
    }

    int center() {
        int[][] w = now.ways(0);
        int most = 0;
        for (int i = 0; i < w.length; i++) {
            most = Math.max(most, now.tree(i).size());
        }
        int best = NONE;
        int least = 0;
        for (int i = 0; i < w.length; i++) {
            int greatest = 0;
            for (int j : now.tree(i)) {
                greatest = Math.max(greatest, w[i][j]);
            }
            if (now.tree(i).size() == most && (best == NONE || greatest < least)) {
                best = i;
                least = greatest;
            }
        }
        return best;
    }

    int first(int packet) {
        packet(packet);
        int best = NONE;
        for (int i = 0; i < now.members.size(); i++) {
            Member m = now.members.get(i);
            Integer ask = m.cells[packet].ask;
            if (m.up && ask != null && (best == NONE || ask < now.members.get(best).cells[packet].ask)) {
                best = i;
            }
        }
        return best;
    }

    int blind(int node) {
        Member m = member(node);
        int bits = 0;
        for (int p = m.heard + 1; p < now.next; p++) {
            bits |= m.has.contains(p) ? 0 : 1 << p;
        }
        return bits;
    }

    int guard(int node, int packet) {
        cell(node, packet);
        List<Integer> holders = now.holders(packet);
        if (holders.contains(node) || !joins(node, holders, 0)) {
            return NONE;
        }
        int best = NONE;
        for (int bits = 0; bits < 1 << now.edges.size(); bits++) {
            boolean uncut = true;
            for (int l = 0; l < now.edges.size(); l++) {
                uncut &= (bits & 1 << l) == 0 || !now.edges.get(l).cut;
            }
            if (uncut && (best == NONE || Integer.bitCount(bits) < Integer.bitCount(best))
                    && !joins(node, holders, bits)) {
                best = bits;
            }
        }
        return best;
    }

    boolean joins(int node, List<Integer> some, int without) {
        int[][] w = now.ways(without);
        for (int i : some) {
            if (w[node][i] < 100000) {
                return true;
            }
        }
        return false;
    }

    int best(int n, boolean late) {
        number(n, 0, 20);
        int best = NONE;
        int fewest = 0;
        for (int c = 0; c <= 32; c++) {
            State s = ahead(late);
            for (Member m : s.members) {
                m.c1 = c;
            }
            for (int i = 0; i < n; i++) {
                s.step();
            }
            if (best == NONE || s.requests < fewest) {
                best = c;
                fewest = s.requests;
            }
        }
        return best;
    }

    int spread(int scope) {
        number(scope, 0, 5);
        int n = now.members.size();
        int best = NONE;
        for (int bits = 0; bits < 1 << n; bits++) {
            int covered = 0;
            for (int i = 0; i < n; i++) {
                covered |= (bits & 1 << i) == 0 ? 0 : now.reach(i, scope);
            }
            if (covered == (1 << n) - 1 && (best == NONE || Integer.bitCount(bits) < Integer.bitCount(best))) {
                best = bits;
            }
        }
        return best;
    }

    int holders(int packet) {
        packet(packet);
        return bits(now.holders(packet));
    }

    int log(int ago, int what) {
        if (what < 0 || what > 3) {
            throw new NoSuchElementException();
        }
        return ago < 0 || ago >= now.log.size() ? NONE : now.log.get(ago)[what];
    }

    int seed(int n) {
        int was = now.seed;
        now.seed = n;
        return was;
    }

    void image() {
        kept = now.twin();
    }

    boolean back() {
        if (kept == null) {
            return false;
        }
        now = kept.twin();
        return true;
    }

    int count(int what) {
        int[] all = {now.members.size(), now.edges.size(), now.texts, now.source, now.next, now.scope, now.period,
            now.rate, now.c1, now.c2, now.d1, now.d2, now.notes.size(), now.crowd, now.tick, now.log.size(),
            now.alone};
        return what < 0 || what >= all.length ? NONE : all[what];
    }
}

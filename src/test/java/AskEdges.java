/** The boundaries of promises 18 to 37: what is asked of ways, of who has what, and of what is ahead. */
final class AskEdges {
    private static final int[] FAR_OFF = {-1, Integer.MIN_VALUE, Integer.MAX_VALUE};
    private static final String TWO = "node;node;link 0 1 delay 1 loss 0";
    private static final String LINE = "node;node;node;node;node;node;link 0 1 delay 9 loss 0;link 1 2 delay 9 loss 0;"
        + "link 2 3 delay 9 loss 0;link 3 4 delay 9 loss 0;link 4 5 delay 9 loss 0";
    private static final String SQUARE = "node;node;node;node;link 0 1 delay 1 loss 0;link 0 2 delay 1 loss 0;"
        + "link 1 3 delay 1 loss 0;link 2 3 delay 1 loss 0";
    private static final String NO_SUCH =
        "IndexOutOfBoundsException: there is no such NODE, LINK, PACKET (0 to 11), MESSAGE.";
    private static final String FIRST_TOLD = "Of several exceptions the one told first is thrown";
    private static final String NO_SCOPE = "IllegalArgumentException: the scope is none (0 to 5).";

    private AskEdges() {
    }

    static void all() {
        ofWays();
        ofHolders();
        ofReach();
        ofWhatIsAhead();
        ofGivers();
        ofTheGroup();
    }

    private static void ofWays() {
        Check.edge(18, "0 to itself; NONE", AskEdges::waysToItselfAndNone);
        Check.edge(18, "by LINKS that are not CUT, the least sum of DELAYS", AskEdges::leastWay);
        Check.edge(18, NO_SUCH, () -> pairsOfNone("way", (talk, one, other) -> talk.way(one, other, one > 0)));
        Check.edge(19, "NONE (also of itself)", AskEdges::noneAbove);
        Check.edge(19, "the least NODE with a LINK to it by which the WAY is so", AskEdges::leastAbove);
        Check.edge(19, NO_SUCH, () -> pairsOfNone("above", RepairTalk::above));
        Check.edge(29, "The k-th NODE of ROUTE (0 the first); NONE without.", AskEdges::routeEnds);
        Check.edge(29, "on, to the first: told from the first on", AskEdges::routeToItself);
        Check.edge(29, NO_SUCH, () -> pairsOfNone("route", (talk, one, other) -> talk.route(one, other, 0)));
    }

    private static void ofHolders() {
        Check.edge(20, "NONE without an ASK", AskEdges::noWindow);
        Check.edge(20, "the least, the greatest time that TIME by BACK as it is could be now", AskEdges::windowByBack);
        Check.edge(20, "TICK and, 1 at least,", AskEdges::leastWindow);
        Check.edge(20, NO_SUCH, () -> cellsOfNone("window", (talk, node, packet) -> talk.window(node, packet, true)));
        Check.edge(21, "(itself, too) the one of the least WAY (0 of itself; of several the least; none)",
            AskEdges::nearest);
        Check.edge(21, "of the NODES that are UP and HAVE it", AskEdges::nearestIsUp);
        Check.edge(21, NO_SUCH, () -> cellsOfNone("near", RepairTalk::near));
        Check.edge(23, "the least scope (0 to 5) whose REACH has one that is UP and HAS it; none", AskEdges::farOff);
        Check.edge(23, NO_SUCH, () -> cellsOfNone("far", RepairTalk::far));
        Check.edge(32, "the NODE that is UP of the least ASK of it; of several the least; none", AskEdges::firstAsk);
        Check.edge(32, NO_SUCH, () -> packetsOfNone("first", RepairTalk::first));
        Check.edge(33, "PACKETS below NEXT, that it has not, above HEARD, as bits", AskEdges::blindBits);
        Check.edge(33, NO_SUCH, AskEdges::blindOfNone);
        Check.edge(37, "NODES that are UP and HAVE a PACKET, as bits.", AskEdges::holders);
        Check.edge(37, NO_SUCH, () -> packetsOfNone("holders", RepairTalk::holders));
    }

    private static void ofReach() {
        Check.edge(22, "NODES of its TREE with HOPS of that at most, and itself, as bits", AskEdges::reach);
        Check.edge(22, NO_SCOPE, () -> noSuchScope("reach", (talk, scope) -> talk.reach(0, scope)));
        Check.edge(22, FIRST_TOLD, () -> nodeAheadOfScope("reach", RepairTalk::reach));
        Check.edge(30, "LINKS from each NODE of its TREE with HOPS of that at most", AskEdges::crossed);
        Check.edge(30, NO_SCOPE, () -> noSuchScope("crossed", (talk, scope) -> talk.crossed(0, scope)));
        Check.edge(30, FIRST_TOLD, () -> nodeAheadOfScope("crossed", RepairTalk::crossed));
        Check.edge(36, "the fewest NODES so that each one is in the REACH of one of them", AskEdges::spread);
        Check.edge(36, "of several the least as bits", AskEdges::leastSpread);
        Check.edge(36, NO_SCOPE, () -> noSuchScope("spread", RepairTalk::spread));
    }

    private static void ofWhatIsAhead() {
        Check.edge(24, "the least N (0 to 120) AHEAD", AskEdges::wholeAt120);
        Check.edge(24, "all NODES that are UP HAVE all PACKETS below NEXT as it is then; none", AskEdges::wholeNow);
        Check.edge(24, "no LINK loses anything", AskEdges::nothingIsLostAhead);
        Check.edge(24, "nothing stays", () -> staysAsItWas("whole", talk -> {
            talk.whole(false);
            talk.whole(true);
        }));
        Check.edge(25, "TALK of N (0 to 120)", AskEdges::talkOf120);
        Check.edge(25, "IllegalArgumentException: n is none.", AskEdges::talkOfNone);
        Check.edge(25, "each DRAW of a TIME is 0, or, late, the most it can be", AskEdges::talkEarlyAndLate);
        Check.edge(25, "nothing stays", () -> staysAsItWas("talk", talk -> {
            talk.talk(120, false, false);
            talk.talk(120, true, true);
        }));
        Check.edge(35, "BEST of N (0 to 20)", AskEdges::bestOfMost);
        Check.edge(35, "the least C1 (0 to 32)", AskEdges::bestIsMost);
        Check.edge(35, "(what was asked ahead of now stays)", AskEdges::bestWithAsks);
        Check.edge(35, "IllegalArgumentException: n is none.", AskEdges::bestOfNone);
        Check.edge(35, "nothing stays", () -> staysAsItWas("best", talk -> {
            talk.best(20, false);
            talk.best(20, true);
        }));
    }

    private static void ofGivers() {
        Check.edge(27, "while that is none of those that were there, and not the NODE itself", AskEdges::giversInARing);
        Check.edge(27, "first the NODE FROM whom it has it (itself, too)", AskEdges::giverItself);
        Check.edge(27, "GIVER, the k-th (0 FROM whom it has it); NONE without.", AskEdges::giverWithout);
        Check.edge(27, NO_SUCH, () -> cellsOfNone("giver", (talk, node, packet) -> talk.giver(node, packet, 0)));
        Check.edge(28, "WHEN; NONE.", AskEdges::whenNone);
        Check.edge(28, NO_SUCH, () -> cellsOfNone("when", RepairTalk::when));
    }

    private static void ofTheGroup() {
        Check.edge(26, "LINKS, not CUT, without which two NODES would have no WAY that have one, as bits",
            AskEdges::parts);
        Check.edge(31, "NONE without NODES", AskEdges::centerOfNone);
        Check.edge(31, "of those with a WAY to the most NODES; of several the least; none", AskEdges::centers);
        Check.edge(34, "the fewest LINKS, not CUT", AskEdges::fewestGuards);
        Check.edge(34, "of several the least as bits", AskEdges::leastGuards);
        Check.edge(34, "none, if it is one of these itself, or has no WAY to one as it is", AskEdges::noGuards);
        Check.edge(34, NO_SUCH, () -> cellsOfNone("guard", RepairTalk::guard));
    }

    interface Asked {
        long of(RepairTalk talk, int one, int other);
    }

    interface AskedOnce {
        long of(RepairTalk talk, int number);
    }

    interface Called {
        void on(RepairTalk talk);
    }

    private static void staysAsItWas(String what, Called call) {
        Twins.dueBusy();
        Twins.dueNothing(what, call::on);
    }

    /** Two NODES of which one, or both, are none. */
    private static void pairsOfNone(String what, Asked asked) {
        RepairTalk talk = Check.group(TWO);
        for (int node : new int[] {2, 6, -1, Integer.MIN_VALUE, Integer.MAX_VALUE}) {
            Check.dueIndex(what + "(" + node + ", 0)", () -> asked.of(talk, node, 0));
            Check.dueIndex(what + "(1, " + node + ")", () -> asked.of(talk, 1, node));
            Check.dueIndex(what + "(" + node + ", " + node + ")", () -> asked.of(talk, node, node));
        }
        asked.of(talk, 1, 1);
        Twins.dueNothing(what, twin -> Check.dueIndex(what + "(4, 0)", () -> asked.of(twin, 4, 0)));
    }

    /** A NODE and a PACKET of which one, or both, are none. */
    private static void cellsOfNone(String what, Asked asked) {
        RepairTalk talk = Check.group(TWO);
        for (int number : FAR_OFF) {
            Check.dueIndex(what + "(" + number + ", 0)", () -> asked.of(talk, number, 0));
            Check.dueIndex(what + "(1, " + number + ")", () -> asked.of(talk, 1, number));
        }
        Check.dueIndex(what + "(2, 0)", () -> asked.of(talk, 2, 0));
        Check.dueIndex(what + "(1, 12)", () -> asked.of(talk, 1, 12));
        Check.dueIndex(what + "(2, 12)", () -> asked.of(talk, 2, 12));
        Check.due(what + "(1, 11) of one that was not sent", asked.of(talk, 1, 11), -1);
        Twins.dueNothing(what, twin -> Check.dueIndex(what + "(0, 12)", () -> asked.of(twin, 0, 12)));
    }

    private static void packetsOfNone(String what, AskedOnce asked) {
        RepairTalk talk = Check.group(TWO);
        Check.dueIndex(what + "(12)", () -> asked.of(talk, 12));
        for (int packet : FAR_OFF) {
            Check.dueIndex(what + "(" + packet + ")", () -> asked.of(talk, packet));
        }
        asked.of(talk, 11);
        Check.dueIndex(what + "(12) of a new object", () -> asked.of(new RepairTalk(), 12));
        asked.of(new RepairTalk(), 0);
    }

    private static void noSuchScope(String what, AskedOnce asked) {
        RepairTalk talk = Check.group(LINE);
        asked.of(talk, 0);
        asked.of(talk, 5);
        Check.dueArgument(what + " of 6", () -> asked.of(talk, 6));
        for (int scope : FAR_OFF) {
            Check.dueArgument(what + " of " + scope, () -> asked.of(talk, scope));
        }
    }

    private static void nodeAheadOfScope(String what, Asked asked) {
        RepairTalk talk = Check.group(TWO);
        for (int node : new int[] {2, -1, Integer.MIN_VALUE, Integer.MAX_VALUE}) {
            Check.dueIndex(what + "(" + node + ", 0)", () -> asked.of(talk, node, 0));
            Check.dueIndex(what + "(" + node + ", 6)", () -> asked.of(talk, node, 6));
            Check.dueIndex(what + "(" + node + ", -1)", () -> asked.of(talk, node, -1));
        }
        Check.dueArgument(what + "(1, 6)", () -> asked.of(talk, 1, 6));
    }

    // Promises 18, 19 and 29

    private static void waysToItselfAndNone() {
        RepairTalk talk = Check.group("node;node down;node;link 0 1 delay 9 loss 100");
        for (int node = 0; node < 3; node++) {
            Check.due("WAY to itself", talk.way(node, node, false), 0);
            Check.due("HOPS to itself", talk.way(node, node, true), 0);
        }
        Check.due("WAY to one that is down", talk.way(0, 1, false), 9);
        Check.due("HOPS to one that is down", talk.way(0, 1, true), 1);
        Check.due("no WAY", talk.way(0, 2, false), -1);
        Check.due("no HOPS", talk.way(2, 1, true), -1);
        talk.cut(0, true);
        Check.due("no WAY by a CUT LINK", talk.way(1, 0, false), -1);
        Check.due("no HOPS by a CUT LINK", talk.way(1, 0, true), -1);
    }

    private static void leastWay() {
        RepairTalk line = Check.group(LINE);
        Check.due("the longest", line.way(5, 0, false), 45);
        Check.due("its HOPS", line.way(5, 0, true), 5);
        RepairTalk talk = Check.group("node;node down;node;link 0 2 delay 9 loss 0;link 1 0 delay 4 loss 0;"
            + "link 2 1 delay 4 loss 0");
        Check.due("round by one that is down", talk.way(0, 2, false), 8);
        Check.due("HOPS round", talk.way(0, 2, true), 2);
        talk.cut(1, true);
        Check.due("straight", talk.way(0, 2, false), 9);
        Check.due("HOPS straight", talk.way(0, 2, true), 1);
        Check.due("the other round", talk.way(0, 1, false), 13);
    }

    private static void noneAbove() {
        RepairTalk talk = Check.group("node;node;node;link 0 1 delay 1 loss 0");
        Check.due("of itself", talk.above(0, 0), -1);
        Check.due("without a WAY", talk.above(0, 2), -1);
        Check.due("of one without LINKS", talk.above(2, 2), -1);
        Check.due("with one", talk.above(0, 1), 0);
        talk.cut(0, true);
        Check.due("by a CUT LINK", talk.above(0, 1), -1);
    }

    /** 3 by 1 or by 2 is as far; straight from 0 to 2 is as far as round by 1. */
    private static void leastAbove() {
        RepairTalk talk = Check.group(SQUARE);
        Check.due("of several", talk.above(0, 3), 1);
        talk.cut(0, true);
        Check.due("of one", talk.above(0, 3), 2);
        RepairTalk like = Check.group("node;node;node;link 0 2 delay 8 loss 0;link 1 0 delay 4 loss 0;"
            + "link 2 1 delay 4 loss 0");
        Check.due("straight, 0 being less than 1", like.above(0, 2), 0);
        Check.due("HOPS straight", like.way(0, 2, true), 1);
        Check.due("round, 1 being less than 2", like.above(2, 0), 1);
        Check.due("HOPS round", like.way(2, 0, true), 2);
    }

    private static void routeEnds() {
        RepairTalk talk = Check.group(LINE);
        for (int k = 0; k < 6; k++) {
            Check.due("route(5, 0, " + k + ")", talk.route(5, 0, k), 5 - k);
        }
        for (int k : new int[] {6, 7, Integer.MAX_VALUE, -1, Integer.MIN_VALUE}) {
            Check.due("route(5, 0, " + k + ")", talk.route(5, 0, k), -1);
        }
        talk.cut(2, true);
        for (int k = -1; k < 4; k++) {
            Check.due("without a WAY", talk.route(5, 0, k), -1);
        }
    }

    private static void routeToItself() {
        RepairTalk talk = Check.group(LINE);
        for (int node = 0; node < 6; node++) {
            Check.due("itself", talk.route(node, node, 0), node);
            Check.due("nothing behind", talk.route(node, node, 1), -1);
            Check.due("nothing ahead", talk.route(node, node, -1), -1);
        }
    }

    // Promises 20, 21, 23, 32, 33 and 37

    private static void noWindow() {
        RepairTalk talk = MemberEdges.missed("4 0", "1 0");
        Check.due("of a packet that it has", talk.window(1, 1, false), -1);
        Check.due("of the source", talk.window(0, 0, true), -1);
        Check.due("of one that was not sent", talk.window(1, 11, true), -1);
        Check.due("with an ASK", talk.window(1, 0, false), 4 + 4);
        talk.ticks(7);
        Check.due("the ASK being over", talk.window(1, 0, false), -1);
    }

    /** By EST of 4 and a BACK of 1 the times are 2 times C1 to C1 and C2; by the source itself EST is 1. */
    private static void windowByBack() {
        RepairTalk talk = MemberEdges.missed("4 0", "32 0");
        Check.tell(talk, "request 5 7");
        Check.due("the least", talk.window(1, 0, false), 4 + 5);
        Check.due("the greatest", talk.window(1, 0, true), 4 + 12);
        int seed = talk.seed(9);
        Check.due("no draw", talk.seed(seed), 9);
        talk.ticks(4);
        Check.due("BACK", talk.timer(1, 0, 1), 1);
        Check.due("the least by 1", talk.window(1, 0, false), 8 + 10);
        Check.due("the greatest by 1", talk.window(1, 0, true), 8 + 24);
        Check.tell(talk, "source 1");
        Check.due("the least of the source", talk.window(1, 0, false), 8 + 2);
        Check.due("the greatest of the source, 1 and 1", talk.window(1, 0, true), 8 + 4);
    }

    private static void leastWindow() {
        RepairTalk talk = MemberEdges.missed("0 0", "32 0");
        Check.due("the least", talk.window(1, 0, false), 5);
        Check.due("the greatest", talk.window(1, 0, true), 5);
        talk.ticks(8);
        Check.due("BACK", talk.timer(1, 0, 1), 5);
        Check.due("the least by 5", talk.window(1, 0, false), 13);
        Check.due("the greatest by 5", talk.window(1, 0, true), 13);
        Check.tell(talk, "request 32 32");
        Check.due("the most of all", talk.window(1, 0, true), 12 + 64 * 32);
    }

    private static void nearest() {
        RepairTalk talk = Check.group(SQUARE);
        Check.due("nobody has it", talk.near(3, 0), -1);
        talk.send();
        Check.due("itself", talk.near(0, 0), 0);
        Check.due("the only one", talk.near(3, 0), 0);
        talk.give(2, 0, true);
        talk.give(1, 0, true);
        Check.due("of several the least", talk.near(3, 0), 1);
        talk.give(0, 0, false);
        Check.due("of several the least", talk.near(0, 0), 1);
        talk.give(3, 0, true);
        Check.due("itself, though not the least", talk.near(3, 0), 3);
        talk.cut(0, true);
        talk.cut(1, true);
        Check.due("without a WAY", talk.near(0, 0), -1);
    }

    private static void nearestIsUp() {
        RepairTalk talk = Check.group(SQUARE);
        talk.send();
        talk.give(1, 0, true);
        Check.due("of two", talk.near(3, 0), 1);
        talk.wake(1, false);
        Check.due("of one that is up", talk.near(3, 0), 0);
        Check.due("of one that is down itself", talk.near(1, 0), 0);
        talk.wake(0, false);
        Check.due("none is up", talk.near(3, 0), -1);
        Check.due("not itself either", talk.near(0, 0), -1);
    }

    private static void farOff() {
        RepairTalk talk = Check.group(LINE);
        Check.due("nobody has it", talk.far(0, 0), -1);
        talk.send();
        for (int node = 0; node < 6; node++) {
            Check.due("of " + node, talk.far(node, 0), node);
        }
        talk.give(3, 0, true);
        Check.due("of the nearer one", talk.far(5, 0), 2);
        talk.wake(3, false);
        Check.due("of one that is up", talk.far(5, 0), 5);
        Check.due("of one that is down itself", talk.far(3, 0), 3);
        talk.cut(4, true);
        Check.due("without a WAY", talk.far(5, 0), -1);
    }

    private static void firstAsk() {
        RepairTalk talk = Check.group("node;node down;node down;node down;link 0 1 delay 2 loss 0;"
            + "link 0 2 delay 1 loss 0;link 0 3 delay 1 loss 0;request 4 0");
        Check.due("none", talk.first(0), -1);
        talk.send();
        talk.ticks(3);
        for (int node = 1; node < 4; node++) {
            talk.wake(node, true);
        }
        talk.send();
        Check.due("none yet", talk.first(0), -1);
        talk.ticks(3);
        Check.dueAll("ASKS", new long[] {talk.timer(1, 0, 0), talk.timer(2, 0, 0), talk.timer(3, 0, 0)}, 9, 8, 8);
        Check.due("of several the least", talk.first(0), 2);
        talk.wake(2, false);
        Check.due("that is up", talk.first(0), 3);
        talk.wake(3, false);
        Check.due("that is up", talk.first(0), 1);
        talk.wake(1, false);
        Check.due("none is up", talk.first(0), -1);
        Check.due("of another packet", talk.first(1), -1);
        // The source asks, too: it misses packet 0, that was taken from it, by a report of node 1.
        RepairTalk source = Check.group(TWO + ";session 3");
        source.send();
        source.ticks(2);
        source.give(0, 0, false);
        source.ticks(2);
        Check.due("ASK of the source", source.timer(0, 0, 0) > 0, true);
        Check.due("the source", source.first(0), 0);
    }

    private static void blindBits() {
        RepairTalk talk = Check.group(TWO);
        talk.cut(0, true);
        Check.due("nothing was sent", talk.blind(1), 0);
        talk.send();
        Check.due("without HEARD", talk.blind(1), 1);
        for (int i = 1; i < 12; i++) {
            talk.send();
        }
        Check.due("all", talk.blind(1), 0xFFF);
        Check.due("of the source", talk.blind(0), 0);
        talk.give(1, 4, true);
        Check.due("above 4", talk.blind(1), 0xFE0);
        talk.give(1, 4, false);
        Check.due("HEARD itself is none", talk.blind(1), 0xFE0);
        talk.give(1, 11, true);
        Check.due("none", talk.blind(1), 0);
    }

    private static void blindOfNone() {
        RepairTalk talk = Check.group(TWO);
        Check.dueIndex("blind(2)", () -> talk.blind(2));
        for (int node : FAR_OFF) {
            Check.dueIndex("blind(" + node + ")", () -> talk.blind(node));
        }
        Check.due("the last", talk.blind(1), 0);
    }

    private static void holders() {
        RepairTalk talk = Check.group(LINE);
        Check.due("none", talk.holders(11), 0);
        talk.send();
        Check.due("the source", talk.holders(0), 1);
        for (int node = 1; node < 6; node++) {
            talk.give(node, 0, true);
        }
        Check.due("all", talk.holders(0), 63);
        talk.wake(5, false);
        talk.wake(0, false);
        Check.due("that are up", talk.holders(0), 30);
        Check.due("without NODES", new RepairTalk().holders(0), 0);
    }

    // Promises 22, 30 and 36

    private static void reach() {
        RepairTalk talk = Check.group(LINE);
        for (int scope = 0; scope < 6; scope++) {
            Check.due("reach(0, " + scope + ")", talk.reach(0, scope), (2 << scope) - 1);
        }
        Check.due("reach(3, 1)", talk.reach(3, 1), 0x1C);
        talk.wake(1, false);
        Check.due("with one that is down", talk.reach(0, 5), 63);
        talk.cut(0, true);
        Check.due("itself alone", talk.reach(0, 5), 1);
        Check.due("without it", talk.reach(5, 5), 62);
        // HOPS of the TREE count, not of the fewest LINKS.
        RepairTalk round = Check.group("node;node;node;link 0 2 delay 9 loss 0;link 1 0 delay 4 loss 0;"
            + "link 2 1 delay 4 loss 0");
        Check.due("round", round.reach(0, 1), 3);
    }

    private static void crossed() {
        RepairTalk talk = Check.group(LINE);
        for (int scope = 0; scope < 6; scope++) {
            Check.due("crossed(0, " + scope + ")", talk.crossed(0, scope), (1 << scope) - 1);
        }
        Check.due("crossed(5, 1)", talk.crossed(5, 1), 16);
        talk.cut(0, true);
        Check.due("none", talk.crossed(0, 5), 0);
        Check.due("of the TREE alone", Check.group(SQUARE).crossed(0, 5), 7);
        Check.due("of one alone", Check.group("node").crossed(0, 5), 0);
    }

    private static void spread() {
        Check.due("without NODES", new RepairTalk().spread(0), 0);
        Check.due("without NODES", new RepairTalk().spread(5), 0);
        Check.due("of one", Check.group("node").spread(0), 1);
        RepairTalk talk = Check.group(LINE);
        Check.due("by 0 all", talk.spread(0), 63);
        Check.due("by 1", talk.spread(1), 1 << 1 | 1 << 4);
        Check.due("by 2", talk.spread(2), 1 << 0 | 1 << 3);
        Check.due("by 5", talk.spread(5), 1);
        for (int link = 0; link < 5; link++) {
            talk.cut(link, true);
        }
        Check.due("without LINKS", talk.spread(5), 63);
        talk.wake(5, false);
        Check.due("one that is down, too", talk.spread(5), 63);
    }

    private static void leastSpread() {
        Check.due("0 and 1 of many pairs", Check.group(SQUARE).spread(1), 3);
        // By 3 each of 2 and 3 reaches all: the least is 1 << 2.
        Check.due("by 3", Check.group(LINE).spread(3), 1 << 2);
        Check.due("by 4", Check.group(LINE).spread(4), 1 << 1);
    }

    // Promises 24, 25 and 35

    /** Node 0 is down from TICK 4 on, so node 1 asks at 35, 99 and 227, and the repair of 260 would be there at 261. */
    private static RepairTalk asksAt227() {
        RepairTalk talk = MemberEdges.missed("32 0", "32 0");
        talk.wake(0, false);
        talk.ticks(60);
        talk.ticks(40);
        Check.due("ASK", talk.timer(1, 0, 0), 227);
        return talk;
    }

    private static void wholeAt120() {
        RepairTalk talk = asksAt227();
        talk.ticks(141 - 104);
        talk.wake(0, true);
        Check.due("121", talk.whole(false), -1);
        Check.due("121, late", talk.whole(true), -1);
        talk.ticks(1);
        Check.due("120", talk.whole(false), 120);
        talk.ticks(1);
        Check.due("119", talk.whole(true), 119);
    }

    private static void wholeNow() {
        Check.due("without NODES", new RepairTalk().whole(true), 0);
        RepairTalk talk = Check.group(TWO);
        Check.due("without PACKETS", talk.whole(false), 0);
        talk.send();
        Check.due("at TICK 1", talk.whole(false), 2);
        talk.ticks(1);
        Check.due("at TICK 1", talk.whole(false), 1);
        talk.ticks(1);
        Check.due("now", talk.whole(false), 0);
        talk.give(1, 0, false);
        Check.due("never, as nobody tells it of that", talk.whole(false), -1);
        talk.give(1, 0, true);
        talk.give(0, 0, false);
        Check.due("nor does anybody tell the source", talk.whole(false), -1);
        talk.give(0, 0, true);
        talk.give(1, 0, false);
        talk.wake(1, false);
        Check.due("all that are up", talk.whole(false), 0);
        talk.wake(0, false);
        Check.due("none is up", talk.whole(false), 0);
        // NEXT is as it is then: while one packet a TICK is sent, the latest is always on its way.
        RepairTalk rate = Check.group(TWO + ";rate 1");
        Check.due("ahead of all", rate.whole(false), 0);
        rate.ticks(1);
        Check.due("the twelfth, of TICK 11, is there at 12", rate.whole(false), 12);
    }

    private static void nothingIsLostAhead() {
        RepairTalk talk = Check.group("node;node;link 0 1 delay 3 loss 100;rate 20;repair 0 0");
        talk.ticks(1);
        Check.due("lost", talk.gap(1, 0, 0), 0);
        // Packet 1 is there at 23; packet 0 is asked for at 31, which is heard at 34, answered at 35, there at 38.
        Check.due("ahead", talk.whole(false), 38);
        Check.due("LOAD stays", talk.link(0, 5), 1);
    }

    private static void talkOf120() {
        RepairTalk talk = asksAt227();
        Check.due("0", talk.talk(0, false, false), 0);
        talk.ticks(4);
        Check.due("119", talk.talk(119, false, false), 0);
        Check.due("120", talk.talk(120, false, false), 1);
        Check.due("120, late", talk.talk(120, true, false), 1);
        Check.due("of none", new RepairTalk().talk(120, false, true), 0);
        RepairTalk repairs = MemberEdges.missed("4 0", "1 0");
        Check.due("repairs of 0", repairs.talk(0, false, true), 0);
        Check.due("repairs of 5", repairs.talk(5, false, true), 0);
        Check.due("repairs of 6", repairs.talk(6, false, true), 1);
        repairs.ticks(6);
        Check.due("what was sent by now does not count", repairs.talk(120, false, true), 0);
        Check.due("nor of requests", repairs.talk(120, false, false), 0);
    }

    private static void talkOfNone() {
        for (int n : new int[] {121, -1, Integer.MIN_VALUE, Integer.MAX_VALUE}) {
            Twins.dueNothing("talk(" + n + ")", talk -> {
                Check.dueArgument("talk(" + n + ")", () -> talk.talk(n, false, false));
                Check.dueArgument("talk(" + n + ", late)", () -> talk.talk(n, true, true));
            });
        }
    }

    /** TICK is 3: packet 1 is there in that one, and is asked for at 3 and C1, late at 3 and C1 and C2. */
    private static void talkEarlyAndLate() {
        RepairTalk talk = Check.group("node;node down;link 0 1 delay 1 loss 0;request 4 2;repair 1 2");
        talk.send();
        talk.ticks(2);
        talk.wake(1, true);
        talk.send();
        talk.ticks(1);
        Check.due("ahead of 7", talk.talk(4, false, false), 0);
        Check.due("at 7", talk.talk(5, false, false), 1);
        Check.due("late ahead of 9", talk.talk(6, true, false), 0);
        Check.due("late at 9", talk.talk(7, true, false), 1);
        Check.due("answered ahead of 9", talk.talk(6, false, true), 0);
        Check.due("answered at 9", talk.talk(7, false, true), 1);
        Check.due("late answered ahead of 13", talk.talk(10, true, true), 0);
        Check.due("late answered at 13", talk.talk(11, true, true), 1);
    }

    /** TICK is 3: packet 1 is there in that one, and 1 asks for packet 0, being the source (C1 counts a quarter). */
    private static RepairTalk asksSoon(String request) {
        RepairTalk talk = Check.group("node;node down;link 0 1 delay 1 loss 0;request " + request + ";repair 32 0");
        talk.send();
        talk.ticks(2);
        talk.wake(1, true);
        talk.send();
        Check.tell(talk, "source 1");
        talk.ticks(1);
        return talk;
    }

    private static void bestOfMost() {
        RepairTalk talk = asksSoon("8 0");
        Check.due("of 0", talk.best(0, false), 0);
        Check.due("of 1, as none asks in TICK 3 itself", talk.best(1, false), 0);
        Check.due("of 2, that begins with TICK 4, so with 2 or more", talk.best(2, false), 8);
        // By 20 TICKS (3 to 22) with times of 7 there are requests at 10 alone, with 6 at 9 and at 21.
        Check.due("of 20", talk.best(20, false), 28);
        Check.due("of a new object", new RepairTalk().best(20, false), 0);
    }

    /** By the TICKS 3 to 10 an ASK at 11 is none: 32 by 4 is 8 behind 3, 31 by 4 is 7. */
    private static void bestIsMost() {
        RepairTalk talk = asksSoon("8 0");
        Check.due("the most", talk.best(8, false), 32);
        // A TICK more, and each C1 has a request; with a time of 3 (6 and 12 behind) the second one is at 12.
        Check.due("the least of like ones", talk.best(9, false), 12);
        Check.due("C1 stays", talk.node(1, 4), 8);
        Check.due("C1 stays as told", talk.count(8), 8);
    }

    private static void bestWithAsks() {
        RepairTalk talk = MemberEdges.missed("2 0", "32 0");
        Check.due("ASK", talk.timer(1, 0, 0), 5);
        // It asks at 5 by any C1, then (EST being 4) at 5 and 2 times C1.
        Check.due("of 2", talk.best(2, false), 0);
        Check.due("of 3, with TICK 6", talk.best(3, false), 1);
        Check.due("of 4, with TICK 7", talk.best(4, false), 2);
        Check.due("of 20, with TICK 23", talk.best(20, false), 10);
    }

    private static void bestOfNone() {
        for (int n : new int[] {21, -1, Integer.MIN_VALUE, Integer.MAX_VALUE}) {
            Twins.dueNothing("best(" + n + ")", talk -> {
                Check.dueArgument("best(" + n + ", false)", () -> talk.best(n, false));
                Check.dueArgument("best(" + n + ", true)", () -> talk.best(n, true));
            });
        }
    }

    // Promises 27 and 28

    private static long[] givers(RepairTalk talk, int node, int packet) {
        long[] all = new long[8];
        for (int k = -1; k < 7; k++) {
            all[k + 1] = talk.giver(node, packet, k);
        }
        return all;
    }

    /** 1 has it from 0, that has it from 1 (its own being taken), and 2 from 0. */
    private static void giversInARing() {
        RepairTalk talk = Check.group("node;node;node;link 0 1 delay 1 loss 0;link 1 2 delay 1 loss 0;session 2;"
            + "request 4 0;repair 2 0");
        talk.send();
        talk.ticks(3);
        talk.give(0, 0, false);
        Check.dueAll("of 1", givers(talk, 1, 0), -1, 0, -1, -1, -1, -1, -1, -1);
        talk.ticks(40);
        Check.dueAll("of 0", givers(talk, 0, 0), -1, 1, -1, -1, -1, -1, -1, -1);
        Check.dueAll("of 1", givers(talk, 1, 0), -1, 0, -1, -1, -1, -1, -1, -1);
        Check.dueAll("of 2", givers(talk, 2, 0), -1, 0, 1, -1, -1, -1, -1, -1);
        // 2 has it from 1, that has it from 0, that has it from itself: it comes once.
        RepairTalk chain = Check.group("node;node;node down;link 0 1 delay 2 loss 0;link 1 2 delay 1 loss 0;"
            + "request 4 0;repair 2 0");
        chain.send();
        chain.ticks(4);
        chain.wake(2, true);
        chain.send();
        chain.ticks(20);
        Check.dueAll("of 2", givers(chain, 2, 0), -1, 1, 0, -1, -1, -1, -1, -1);
    }

    private static void giverItself() {
        RepairTalk talk = Check.group(TWO);
        talk.send();
        Check.dueAll("of the source", givers(talk, 0, 0), -1, 0, -1, -1, -1, -1, -1, -1);
        talk.ticks(2);
        Check.dueAll("of one that got it", givers(talk, 1, 0), -1, 0, -1, -1, -1, -1, -1, -1);
        talk.give(1, 0, false);
        talk.give(1, 0, true);
        Check.dueAll("of one that was given it", givers(talk, 1, 0), -1, 1, -1, -1, -1, -1, -1, -1);
    }

    private static void giverWithout() {
        RepairTalk talk = Check.group(TWO);
        Check.dueAll("none has it", givers(talk, 0, 0), -1, -1, -1, -1, -1, -1, -1, -1);
        talk.send();
        Check.due("of k far off", talk.giver(0, 0, Integer.MAX_VALUE), -1);
        Check.due("of k far off", talk.giver(0, 0, Integer.MIN_VALUE), -1);
        Check.dueAll("it has it not yet", givers(talk, 1, 0), -1, -1, -1, -1, -1, -1, -1, -1);
        talk.ticks(2);
        talk.give(1, 0, false);
        Check.dueAll("taken", givers(talk, 1, 0), -1, -1, -1, -1, -1, -1, -1, -1);
    }

    private static void whenNone() {
        RepairTalk talk = Check.group(TWO);
        Check.due("none has it", talk.when(0, 0), -1);
        talk.send();
        Check.due("at 0", talk.when(0, 0), 0);
        Check.due("it has it not yet", talk.when(1, 0), -1);
        talk.ticks(5);
        Check.due("at 1", talk.when(1, 0), 1);
        talk.give(1, 0, false);
        Check.due("taken", talk.when(1, 0), -1);
        talk.give(1, 0, true);
        Check.due("given at 5", talk.when(1, 0), 5);
    }

    // Promises 26, 31 and 34

    private static void parts() {
        Check.due("without NODES", new RepairTalk().parts(), 0);
        Check.due("without LINKS", Check.group("node;node").parts(), 0);
        RepairTalk line = Check.group(LINE);
        Check.due("of a line", line.parts(), 31);
        line.cut(2, true);
        Check.due("a CUT LINK is none", line.parts(), 27);
        line.cut(2, false);
        Check.due("of a line again", line.parts(), 31);
        RepairTalk talk = Check.group(SQUARE);
        Check.due("of a ring", talk.parts(), 0);
        talk.wake(1, false);
        Check.due("of a ring with one that is down", talk.parts(), 0);
        talk.cut(3, true);
        Check.due("of what is left", talk.parts(), 7);
        // The tenth LINK parts the sixth NODE from five that are joined by nine.
        RepairTalk most = Check.group("node;node;node;node;node;node");
        Check.tell(most, "link 0 1 delay 1 loss 0;link 0 2 delay 1 loss 0;link 0 3 delay 1 loss 0;"
            + "link 0 4 delay 1 loss 0;link 1 2 delay 1 loss 0;link 1 3 delay 1 loss 0;link 1 4 delay 1 loss 0;"
            + "link 2 3 delay 1 loss 0;link 2 4 delay 1 loss 0;link 4 5 delay 1 loss 0");
        Check.due("the tenth", most.parts(), 1 << 9);
    }

    private static void centerOfNone() {
        Check.due("without NODES", new RepairTalk().center(), -1);
        Check.due("of one", Check.group("node down").center(), 0);
    }

    private static void centers() {
        Check.due("without LINKS the least", Check.group("node;node;node").center(), 0);
        Check.due("of several the least", Check.group(SQUARE).center(), 0);
        Check.due("of a line", Check.group(LINE).center(), 2);
        // 0 and 1 are nearer to one another, but 2 to 4 have a WAY to more; down or not.
        RepairTalk talk = Check.group("node;node;node;node down;node;link 0 1 delay 1 loss 0;link 2 3 delay 9 loss 0;"
            + "link 3 4 delay 8 loss 0");
        Check.due("of the most", talk.center(), 3);
        talk.cut(2, true);
        Check.due("of like ones the nearest", talk.center(), 0);
        RepairTalk two = Check.group("node;node;node;node;link 0 1 delay 3 loss 0;link 2 3 delay 2 loss 0");
        Check.due("of two pairs the nearer one", two.center(), 2);
    }

    private static void fewestGuards() {
        // Node 3 hangs on two LINKS, node 0 (that has it) behind one.
        RepairTalk talk = Check.group("node;node;node;node;link 1 3 delay 1 loss 0;link 2 3 delay 1 loss 0;"
            + "link 1 2 delay 1 loss 0;link 0 1 delay 1 loss 0");
        talk.send();
        Check.due("one of the fourth place", talk.guard(3, 0), 8);
        talk.give(2, 0, true);
        Check.due("the two of node 3", talk.guard(3, 0), 3);
        talk.cut(1, true);
        Check.due("a CUT LINK is none", talk.guard(3, 0), 1);
        RepairTalk most = Check.group("node;node;node;node;node;node");
        Check.tell(most, "link 0 1 delay 1 loss 0;link 0 2 delay 1 loss 0;link 0 3 delay 1 loss 0;"
            + "link 0 4 delay 1 loss 0;link 1 2 delay 1 loss 0;link 1 3 delay 1 loss 0;link 1 4 delay 1 loss 0;"
            + "link 2 3 delay 1 loss 0;link 2 4 delay 1 loss 0;link 4 5 delay 1 loss 0");
        most.send();
        Check.due("the tenth", most.guard(5, 0), 1 << 9);
        Check.due("four of 1", most.guard(1, 0), 15);
    }

    private static void leastGuards() {
        RepairTalk line = Check.group(LINE);
        line.send();
        Check.due("of five ones the first", line.guard(5, 0), 1);
        RepairTalk square = Check.group(SQUARE);
        square.send();
        Check.due("0 and 1, of four pairs", square.guard(3, 0), 3);
    }

    private static void noGuards() {
        RepairTalk talk = Check.group(SQUARE);
        Check.due("nobody has it", talk.guard(3, 0), -1);
        talk.send();
        Check.due("itself", talk.guard(0, 0), -1);
        talk.give(1, 0, true);
        talk.wake(1, false);
        Check.due("it has it, but is down", talk.guard(1, 0), 3);
        talk.wake(0, false);
        Check.due("none is up", talk.guard(3, 0), -1);
        talk.wake(0, true);
        talk.cut(0, true);
        talk.cut(1, true);
        Check.due("no WAY", talk.guard(3, 0), -1);
    }
}

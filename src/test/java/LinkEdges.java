/** The boundaries of promises 10 to 17: links, messages on their way, ticks, and what is done by hand. */
final class LinkEdges {
    private static final int[] FAR_OFF = {-1, Integer.MIN_VALUE, Integer.MAX_VALUE};
    private static final String TWO = "node;node;link 0 1 delay 1 loss 0";
    private static final String LINE = "node;node;node;node;node;node;link 0 1 delay 9 loss 0;link 1 2 delay 9 loss 0;"
        + "link 2 3 delay 9 loss 0;link 3 4 delay 9 loss 0;link 4 5 delay 9 loss 0";
    private static final String STAR = "node;node;node;node;node;node;link 0 1 delay 9 loss 0;link 0 2 delay 9 loss 0;"
        + "link 0 3 delay 9 loss 0;link 0 4 delay 9 loss 0;link 0 5 delay 9 loss 0";
    private static final String REFUSED =
        "a call that throws changes nothing but the TAPE, where it is used up, and fault()";
    private static final String NO_SUCH =
        "IndexOutOfBoundsException: there is no such NODE, LINK, PACKET (0 to 11), MESSAGE.";

    private LinkEdges() {
    }

    static void all() {
        ofLinks();
        ofFlights();
        ofTicks();
        ofSend();
        ofHands();
        ofGifts();
    }

    private static void ofLinks() {
        Check.edge(10, "CUT or not (not at first), LOAD 0 to 9999 (0 at first)", LinkEdges::newLink);
        Check.edge(10, "0 the one NODE, 1 the other one (as told)", LinkEdges::linkAsTold);
        Check.edge(10, "LOAD 0 to 9999", LinkEdges::mostLoad);
        Check.edge(10, "LOAD and the DRAW always, if the first two are so", LinkEdges::loadIfReached);
        Check.edge(10, "DRAW modulo 100 is LOSS at least", LinkEdges::leastDraw);
        Check.edge(10, NO_SUCH, LinkEdges::noSuchLink);
        Check.edge(10, "NoSuchElementException: another what.", LinkEdges::noSuchThingOfALink);
    }

    private static void ofFlights() {
        Check.edge(11, "MESSAGES on their way (at most 64)", LinkEdges::mostMessages);
        Check.edge(11, "fewer than 64 are on their way", LinkEdges::the64thMessage);
        Check.edge(11, "HOPS are scope at most", LinkEdges::scopes);
        Check.edge(11, "with SCOPE and ASKED, together (5 at most)", LinkEdges::mostScope);
        Check.edge(11, "the FLOOD of a repair with its scope", LinkEdges::scopeOfARepair);
        Check.edge(11, "with the scope of the request", LinkEdges::scopeOnItsWay);
        Check.edge(41, "One goes back to THE IMAGE: true", LinkEdges::scopeInTheImage);
        Check.edge(11, "by WAYS, of like ones by numbers", LinkEdges::messagesAsSent);
        Check.edge(11, "4 the PACKET (NONE of a report), 5 HEARD in it (NONE)", LinkEdges::reportOfNothing);
        Check.edge(11, "with HEARD of the sender, as it is then", LinkEdges::heardAsItWas);
        Check.edge(11, "are HEARD, and gone", LinkEdges::messagesGo);
        Check.edge(11, NO_SUCH, LinkEdges::noSuchMessage);
        Check.edge(11, "NoSuchElementException: another what.", LinkEdges::noSuchThingOfAMessage);
    }

    private static void ofTicks() {
        Check.edge(12, "So many TICKS (1 to 60)", LinkEdges::mostTicks);
        Check.edge(12, "IllegalArgumentException: they are none.", LinkEdges::noTicks);
        Check.edge(12, "how many PACKETS NODES got by MESSAGES that they had not", LinkEdges::packetsGot);
        Check.edge(12, "MESSAGES that come by TICK", LinkEdges::comesByTick);
        Check.edge(12, "in the order in which they were sent", LinkEdges::heardAsSent);
        Check.edge(12, "each NODE that is UP, by numbers", LinkEdges::downKeepsStill);
        Check.edge(12, "With nobody in its TREE ALONE is 1 more.", LinkEdges::alone);
        Check.edge(12, "with PERIOD above 0, if TICK and its number are a multiple of PERIOD together",
            LinkEdges::periods);
        Check.edge(12, "with RATE above 0, if TICK is a multiple of it, the SOURCE sends, if it can", LinkEdges::rates);
    }

    private static void ofSend() {
        Check.edge(13, "The SOURCE sends, if it is UP and NEXT is below 12", LinkEdges::sendsTwelve);
        Check.edge(13, "IllegalStateException: it cannot.", LinkEdges::cannotSend);
        Check.edge(13, "it HAS it (FROM itself, WHEN TICK) and HEARD is it", LinkEdges::sourceHasIt);
        Check.edge(13, REFUSED, () -> {
            RepairTalk talk = fullBusy();
            Check.dueState("send", talk::send);
            Twins.dueAlikeOn("send", talk, fullBusy());
        });
    }

    private static void ofHands() {
        Check.edge(14, "A NODE is UP (is), or DOWN: whether that changed.", LinkEdges::wakes);
        Check.edge(14, NO_SUCH, LinkEdges::wakesNone);
        Check.edge(15, "A LINK is CUT (is), or not: whether that changed.", LinkEdges::cuts);
        Check.edge(15, NO_SUCH, LinkEdges::cutsNone);
        Check.edge(16, "LOSS is told: what it was.", LinkEdges::losses);
        Check.edge(16, "IllegalArgumentException: n is none.", LinkEdges::noLoss);
        Check.edge(16, NO_SUCH, LinkEdges::lossOfNone);
    }

    private static void ofGifts() {
        Check.edge(17, "ASK and GAP none; HEARD is it at least, without ASKS", LinkEdges::given);
        Check.edge(17, "ANSWER, FROM, WHEN none, GAP 5; HEARD stays", LinkEdges::taken);
        Check.edge(17, "one that has it already, or has it not, stays as it is in all", LinkEdges::giftChangesNothing);
        Check.edge(17, "IllegalStateException: the PACKET is not below NEXT.", LinkEdges::gaveTooEarly);
        Check.edge(17, NO_SUCH, LinkEdges::gaveToNone);
        Check.edge(17, "Of several exceptions the one told first is thrown", LinkEdges::gaveNoneToNone);
    }

    private static long[] message(RepairTalk talk, int k) {
        long[] all = new long[6];
        for (int what = 0; what < all.length; what++) {
            all[what] = talk.flight(k, what);
        }
        return all;
    }

    /** The very text on the tape that a busy twin has, but twelve packets sent. */
    private static RepairTalk fullBusy() {
        RepairTalk talk = Twins.busy();
        while (talk.count(4) < 12) {
            talk.send();
        }
        return talk;
    }

    // Promise 10

    private static void newLink() {
        RepairTalk talk = Check.group("node;node;link 0 1 delay 9 loss 100");
        Check.due("CUT", talk.link(0, 4), 0);
        Check.due("LOAD", talk.link(0, 5), 0);
        talk.cut(0, true);
        Check.due("CUT", talk.link(0, 4), 1);
    }

    private static void linkAsTold() {
        RepairTalk talk = Check.group("node;node;node;link 2 0 delay 9 loss 100;link 1 2 delay 1 loss 0");
        Check.dueAll("the first", new long[] {talk.link(0, 0), talk.link(0, 1), talk.link(0, 2), talk.link(0, 3)},
            2, 0, 9, 100);
        Check.dueAll("the second", new long[] {talk.link(1, 0), talk.link(1, 1), talk.link(1, 2), talk.link(1, 3)},
            1, 2, 1, 0);
    }

    private static void mostLoad() {
        RepairTalk talk = Check.group(TWO + ";session 1");
        for (int i = 0; i < 83; i++) {
            talk.ticks(60);
        }
        talk.ticks(19);
        Check.due("by 4999 TICKS of two reports", talk.link(0, 5), 9998);
        Check.tell(talk, "session 20");
        talk.send();
        Check.due("by data", talk.link(0, 5), 9999);
        talk.send();
        Check.due("by more data", talk.link(0, 5), 9999);
        Check.tell(talk, "session 1");
        talk.ticks(60);
        Check.due("by 120 reports", talk.link(0, 5), 9999);
    }

    /** A LINK that loses is loaded and drawn for, one behind it, or beyond the scope, is not. */
    private static void loadIfReached() {
        RepairTalk talk = Check.group("node;node;node;node;link 0 1 delay 1 loss 0;link 1 2 delay 1 loss 100;"
            + "link 2 3 delay 1 loss 0");
        talk.send();
        Check.dueAll("LOAD", new long[] {talk.link(0, 5), talk.link(1, 5), talk.link(2, 5)}, 1, 1, 0);
        Check.due("SEED by two draws", talk.seed(1), -1770082073);
        // Node 3 hears at 7 of packet 0, and asks 1 HOP far at 11.
        RepairTalk scoped = Check.group("node;node;node;node down;link 0 1 delay 1 loss 0;link 1 2 delay 1 loss 0;"
            + "link 2 3 delay 1 loss 0;request 4 0;repair 8 0;scope 1");
        scoped.send();
        scoped.ticks(4);
        scoped.wake(3, true);
        scoped.send();
        scoped.ticks(7);
        Check.dueAll("LOAD by data", new long[] {scoped.link(0, 5), scoped.link(1, 5), scoped.link(2, 5)}, 2, 2, 2);
        scoped.seed(1);
        scoped.ticks(1);
        Check.dueAll("LOAD by a request", new long[] {scoped.link(0, 5), scoped.link(1, 5), scoped.link(2, 5)},
            2, 2, 3);
        Check.due("SEED by an ASK and one LINK", scoped.seed(1), -1770082073);
    }

    private static void leastDraw() {
        // The first draw by the seed 1 ends in 38, by 132 in 00, by 194 in 99.
        int[][] cases = {{1, 38, 1}, {1, 39, 0}, {1, 37, 1}, {132, 0, 1}, {132, 1, 0}, {194, 99, 1}, {194, 100, 0},
            {194, 0, 1}};
        for (int[] one : cases) {
            RepairTalk talk = Check.group("node;node;link 0 1 delay 1 loss " + one[1]);
            talk.seed(one[0]);
            talk.send();
            Check.due("messages by the seed " + one[0] + " and a LOSS of " + one[1], talk.count(12), one[2]);
            Check.due("LOAD", talk.link(0, 5), 1);
        }
    }

    private static void noSuchLink() {
        RepairTalk talk = Check.group("node;node;node;link 0 1 delay 1 loss 0;link 1 2 delay 2 loss 0");
        Check.due("the last", talk.link(1, 2), 2);
        for (int link : new int[] {2, 9, 10, -1, Integer.MIN_VALUE, Integer.MAX_VALUE}) {
            Check.dueIndex("link(" + link + ", 0)", () -> talk.link(link, 0));
            Check.dueIndex("link(" + link + ", 6)", () -> talk.link(link, 6));
        }
    }

    private static void noSuchThingOfALink() {
        RepairTalk talk = Check.group(TWO);
        Check.due("the last", talk.link(0, 5), 0);
        Check.dueElement("link(0, 6)", () -> talk.link(0, 6));
        for (int what : FAR_OFF) {
            Check.dueElement("link(0, " + what + ")", () -> talk.link(0, what));
        }
    }

    // Promise 11

    private static void mostMessages() {
        RepairTalk talk = Check.group(LINE + ";session 1");
        talk.ticks(2);
        Check.due("by two TICKS", talk.count(12), 60);
        talk.ticks(1);
        Check.due("by three", talk.count(12), 64);
        Check.due("CROWD", talk.count(13), 26);
        Check.due("the last", talk.flight(63, 2), 0);
        // One for whom there is no place counts as reached, so that the LINKS behind are loaded, too.
        for (int link = 0; link < 5; link++) {
            Check.due("LOAD of " + link, talk.link(link, 5), 18);
        }
        Check.tell(talk, "session 0");
        talk.ticks(43);
        Check.due("the last, of TICK 1 by 45 each", talk.count(12), 2);
        talk.ticks(1);
        Check.due("none", talk.count(12), 0);
    }

    private static void the64thMessage() {
        RepairTalk talk = Check.group(STAR + ";session 1");
        talk.ticks(2);
        Check.tell(talk, "session 0");
        talk.cut(3, true);
        talk.cut(4, true);
        talk.send();
        Check.due("messages", talk.count(12), 63);
        talk.cut(1, true);
        talk.cut(2, true);
        talk.send();
        Check.due("messages", talk.count(12), 64);
        Check.due("CROWD", talk.count(13), 0);
        Check.due("GAP by the 64th", talk.gap(1, 1, 0), -1);
        talk.send();
        Check.due("messages", talk.count(12), 64);
        Check.due("CROWD", talk.count(13), 1);
        Check.due("GAP by the 65th", talk.gap(1, 2, 0), 3);
    }

    /** How many messages the first, the second and the third asking of node 5, at the end of a line, are. */
    private static void scopes() {
        dueAsked(1, 1, 2, 3);
        dueAsked(2, 2, 3, 4);
        dueAsked(3, 3, 4, 5);
    }

    private static void mostScope() {
        dueAsked(4, 4, 5, 5);
        dueAsked(5, 5, 5, 5);
    }

    private static void dueAsked(int scope, int... want) {
        RepairTalk talk = Check.group(LINE.replace("delay 9", "delay 1") + ";request 8 0;repair 32 0;scope " + scope);
        talk.loss(4, 100);
        talk.send();
        talk.loss(4, 0);
        talk.ticks(6);
        talk.send();
        talk.ticks(6);
        // It hears at 11, asks at 19, then at 35 and at 67; the others have nothing to answer with, and are down then.
        for (int node = 0; node < 5; node++) {
            talk.give(node, 0, false);
        }
        int[] ticks = {19, 35, 67};
        for (int i = 0; i < ticks.length; i++) {
            talk.ticks(ticks[i] - talk.count(14));
            Check.due("nothing flies", talk.count(12), 0);
            for (int node = 0; node < 5; node++) {
                talk.wake(node, false);
            }
            talk.ticks(1);
            Check.due("scope " + scope + ", messages of asking " + i, talk.count(12), want[i]);
        }
    }

    /** Node 3 asks 1 HOP far, so node 2's repair goes 1 HOP far: to 1 and 3, and not to 0. */
    private static void scopeOfARepair() {
        RepairTalk talk = Check.group("node;node;node;node down;link 0 1 delay 1 loss 0;link 1 2 delay 1 loss 0;"
            + "link 2 3 delay 1 loss 0;request 4 0;repair 2 0;scope 1");
        talk.send();
        talk.ticks(4);
        talk.wake(3, true);
        talk.send();
        // Heard at 7, asked at 11, heard by 2 at 12, answered at 14.
        talk.ticks(10);
        Check.due("ANSWER", talk.timer(2, 0, 5), 14);
        talk.ticks(1);
        Check.due("messages", talk.count(12), 2);
        Check.dueAll("the one", message(talk, 0), 15, 1, 2, 2, 0, 1);
        Check.dueAll("the other", message(talk, 1), 15, 3, 2, 2, 0, 1);
    }

    /** Node 3's request (1 HOP far) is 5 on its way; data, which goes 5 far, is sent and there ahead of it. */
    private static void scopeOnItsWay() {
        RepairTalk talk = Check.group(SLOW_END);
        toRequestOnItsWay(talk);
        talk.ticks(7);
        dueRepairs(talk);
    }

    private static final String SLOW_END = "node;node;node;node down;link 0 1 delay 1 loss 0;link 1 2 delay 1 loss 0;"
        + "link 2 3 delay 5 loss 0;request 4 0;repair 2 0;scope 1";

    /** TICK is 20: node 3 heard of packet 0 at 15, and asked at 19. */
    private static void toRequestOnItsWay(RepairTalk talk) {
        talk.send();
        talk.ticks(8);
        talk.wake(3, true);
        talk.send();
        talk.ticks(11);
        talk.send();
        talk.ticks(1);
        Check.dueAll("the request", message(talk, 3), 24, 2, 3, 1, 0, 1);
    }

    /** TICK is 27: node 2 answered at 26, 1 HOP far. */
    private static void dueRepairs(RepairTalk talk) {
        Check.due("REPAIRS", talk.node(2, 8), 1);
        Check.due("messages", talk.count(12), 2);
        Check.dueAll("the one", message(talk, 0), 27, 1, 2, 2, 0, 2);
        Check.dueAll("the other", message(talk, 1), 31, 3, 2, 2, 0, 2);
    }

    /** The image has the request with its scope, whatever is on its way behind that. */
    private static void scopeInTheImage() {
        RepairTalk talk = Check.group(SLOW_END);
        toRequestOnItsWay(talk);
        talk.ticks(2);
        talk.image();
        talk.ticks(9);
        talk.send();
        talk.back();
        Check.dueAll("the request", message(talk, 1), 24, 2, 3, 1, 0, 1);
        talk.ticks(5);
        dueRepairs(talk);
    }

    private static void messagesAsSent() {
        RepairTalk talk = Check.group("node;node;node;node;link 0 1 delay 5 loss 0;link 0 3 delay 2 loss 0;"
            + "link 0 2 delay 2 loss 0");
        talk.send();
        Check.dueAll("the first", message(talk, 0), 2, 2, 0, 0, 0, 0);
        Check.dueAll("the second", message(talk, 1), 2, 3, 0, 0, 0, 0);
        Check.dueAll("the third", message(talk, 2), 5, 1, 0, 0, 0, 0);
        talk.send();
        Check.dueAll("the fourth", message(talk, 3), 2, 2, 0, 0, 1, 1);
        talk.ticks(3);
        Check.due("the later ones are left", talk.count(12), 2);
        Check.dueAll("the first is now", message(talk, 0), 5, 1, 0, 0, 0, 0);
        Check.dueAll("the second is now", message(talk, 1), 5, 1, 0, 0, 1, 1);
    }

    private static void reportOfNothing() {
        RepairTalk talk = Check.group(TWO + ";session 1");
        talk.ticks(1);
        Check.dueAll("without HEARD", message(talk, 0), 1, 1, 0, 3, -1, -1);
        Check.dueAll("without HEARD", message(talk, 1), 1, 0, 1, 3, -1, -1);
        talk.send();
        Check.dueAll("data", message(talk, 2), 2, 1, 0, 0, 0, 0);
        talk.ticks(1);
        Check.dueAll("with HEARD", message(talk, 1), 2, 1, 0, 3, -1, 0);
    }

    private static void heardAsItWas() {
        RepairTalk talk = Check.group("node;node;link 0 1 delay 9 loss 0");
        talk.send();
        talk.send();
        Check.due("in packet 0", talk.flight(0, 5), 0);
        Check.due("in packet 1", talk.flight(1, 5), 1);
        talk.give(1, 1, true);
        talk.ticks(8);
        Check.due("in packet 0", talk.flight(0, 5), 0);
    }

    private static void messagesGo() {
        RepairTalk talk = Check.group("node;node;node down;link 0 1 delay 2 loss 0;link 0 2 delay 2 loss 0");
        talk.send();
        talk.ticks(2);
        Check.due("on their way", talk.count(12), 2);
        talk.ticks(1);
        Check.due("gone, also to one that is down", talk.count(12), 0);
    }

    private static void noSuchMessage() {
        RepairTalk talk = Check.group(TWO);
        Check.dueIndex("none is on its way", () -> talk.flight(0, 0));
        talk.send();
        talk.send();
        Check.due("the last", talk.flight(1, 4), 1);
        for (int k : new int[] {2, 63, 64, -1, Integer.MIN_VALUE, Integer.MAX_VALUE}) {
            Check.dueIndex("flight(" + k + ", 0)", () -> talk.flight(k, 0));
            Check.dueIndex("flight(" + k + ", 6)", () -> talk.flight(k, 6));
        }
    }

    private static void noSuchThingOfAMessage() {
        RepairTalk talk = Check.group(TWO);
        talk.send();
        Check.due("the last", talk.flight(0, 5), 0);
        Check.dueElement("flight(0, 6)", () -> talk.flight(0, 6));
        for (int what : FAR_OFF) {
            Check.dueElement("flight(0, " + what + ")", () -> talk.flight(0, what));
        }
    }

    // Promise 12

    private static void mostTicks() {
        RepairTalk talk = new RepairTalk();
        Check.due("ticks(1)", talk.ticks(1), 0);
        Check.due("TICK", talk.count(14), 1);
        Check.due("ticks(60)", talk.ticks(60), 0);
        Check.due("TICK", talk.count(14), 61);
    }

    private static void noTicks() {
        for (int n : new int[] {0, 61, -1, -60, Integer.MIN_VALUE, Integer.MAX_VALUE}) {
            Twins.dueNothing("ticks(" + n + ")", talk -> Check.dueArgument("ticks(" + n + ")", () -> talk.ticks(n)));
        }
    }

    private static void packetsGot() {
        RepairTalk talk = Check.group("node;node;node;link 0 1 delay 1 loss 0;link 1 2 delay 1 loss 0");
        Check.due("none", talk.ticks(1), 0);
        talk.send();
        Check.due("sent is not got", talk.ticks(1), 0);
        Check.due("one got it", talk.ticks(1), 1);
        talk.send();
        talk.give(2, 1, true);
        Check.due("two of three, one having been given", talk.ticks(5), 2);
        // A repair counts like data, a duplicate does not.
        RepairTalk repair = MemberEdges.missed("4 0", "1 0");
        Check.due("by 9", repair.ticks(6), 0);
        Check.due("by a repair at 10", repair.ticks(1), 1);
        RepairTalk given = MemberEdges.missed("4 0", "1 0");
        given.ticks(6);
        given.give(1, 0, true);
        Check.due("a duplicate", given.ticks(1), 0);
        Check.due("DUPLICATES", given.node(1, 9), 1);
        // Got twice, having been taken from it.
        RepairTalk twice = Check.group(TWO);
        twice.send();
        twice.ticks(2);
        twice.send();
        twice.give(1, 1, true);
        twice.give(1, 1, false);
        Check.due("one", twice.ticks(2), 1);
    }

    private static void comesByTick() {
        RepairTalk talk = Check.group("node;node;link 0 1 delay 3 loss 0");
        talk.ticks(4);
        talk.send();
        Check.due("when", talk.flight(0, 0), 7);
        Check.due("ahead of 7", talk.ticks(3), 0);
        Check.due("at 7", talk.ticks(1), 1);
        Check.due("WHEN", talk.when(1, 0), 7);
    }

    /** Two repairs come at 11: node 0's was sent first. */
    private static void heardAsSent() {
        RepairTalk talk = Check.group("node;node;node down;link 0 2 delay 1 loss 0;link 1 2 delay 1 loss 0;"
            + "link 0 1 delay 1 loss 0;request 4 0;repair 2 0");
        talk.send();
        talk.ticks(2);
        talk.wake(2, true);
        talk.send();
        talk.ticks(9);
        Check.dueAll("the first to 2", message(talk, 1), 11, 2, 0, 2, 0, 1);
        Check.dueAll("the second to 2", message(talk, 3), 11, 2, 1, 2, 0, 1);
        talk.ticks(1);
        Check.due("FROM", talk.giver(2, 0, 0), 0);
        Check.due("DUPLICATES", talk.node(2, 9), 1);
    }

    private static void downKeepsStill() {
        RepairTalk talk = MemberEdges.missed("4 0", "1 0");
        talk.wake(1, false);
        talk.ticks(30);
        Check.due("REQUESTS", talk.node(1, 7), 0);
        Check.due("ASK stays", talk.timer(1, 0, 0), 7);
        RepairTalk reports = Check.group("node;node down;link 0 1 delay 1 loss 0;session 1");
        reports.ticks(1);
        Check.due("messages", reports.count(12), 1);
        Check.due("from whom", reports.flight(0, 2), 0);
    }

    private static void alone() {
        RepairTalk talk = Check.group("node;session 2");
        talk.ticks(4);
        Check.due("by reports", talk.count(16), 2);
        talk.send();
        Check.due("by data", talk.count(16), 3);
        RepairTalk asks = MemberEdges.missed("4 0", "1 0");
        asks.ticks(3);
        asks.cut(0, true);
        asks.ticks(1);
        Check.due("by a request", asks.count(16), 1);
        Check.due("REQUESTS", asks.node(1, 7), 1);
        RepairTalk answers = MemberEdges.missed("4 0", "1 0");
        answers.ticks(5);
        answers.cut(0, true);
        answers.ticks(1);
        Check.due("by a repair", answers.count(16), 1);
        Check.due("REPAIRS", answers.node(0, 8), 1);
        Check.due("LOAD stays", answers.link(0, 5), 3);
        // One that is down is in the TREE, and one that loses all, too.
        RepairTalk down = Check.group("node;node down;link 0 1 delay 1 loss 100");
        down.send();
        Check.due("with one that is down", down.count(16), 0);
    }

    private static void periods() {
        RepairTalk none = Check.group(TWO + ";session 0");
        none.ticks(60);
        Check.due("LOAD without PERIOD", none.link(0, 5), 0);
        RepairTalk one = Check.group(TWO + ";session 1");
        one.ticks(10);
        Check.due("LOAD by 1", one.link(0, 5), 20);
        RepairTalk most = Check.group(TWO + ";session 20");
        most.ticks(1);
        Check.due("node 0 at 0", most.link(0, 5), 1);
        most.ticks(18);
        Check.due("none till 18", most.link(0, 5), 1);
        most.ticks(1);
        Check.due("node 1 at 19", most.link(0, 5), 2);
        most.ticks(1);
        Check.due("node 0 at 20", most.link(0, 5), 3);
    }

    private static void rates() {
        RepairTalk none = Check.group(TWO + ";rate 0");
        none.ticks(60);
        Check.due("NEXT without RATE", none.count(4), 0);
        RepairTalk one = Check.group(TWO + ";rate 1");
        one.ticks(5);
        Check.due("NEXT by 1", one.count(4), 5);
        one.ticks(60);
        Check.due("NEXT at most", one.count(4), 12);
        RepairTalk most = Check.group(TWO + ";rate 20");
        most.ticks(1);
        Check.due("at 0", most.count(4), 1);
        most.ticks(19);
        Check.due("till 19", most.count(4), 1);
        most.ticks(1);
        Check.due("at 20", most.count(4), 2);
        RepairTalk down = Check.group("node down;node;rate 1");
        down.ticks(5);
        Check.due("a source that is down", down.count(4), 0);
        RepairTalk nobody = Check.group("rate 1");
        nobody.ticks(5);
        Check.due("no source", nobody.count(4), 0);
    }

    // Promise 13

    private static void sendsTwelve() {
        RepairTalk talk = Check.group("node");
        for (int i = 0; i < 12; i++) {
            Check.due("send", talk.send(), i);
            Check.due("NEXT", talk.count(4), i + 1);
        }
        Check.dueState("a 13th", talk::send);
        Check.due("NEXT", talk.count(4), 12);
        talk.give(0, 11, false);
        Check.dueState("a 13th, the 12th being taken", talk::send);
    }

    private static void cannotSend() {
        Check.dueState("without NODES", () -> new RepairTalk().send());
        RepairTalk talk = Check.group("node;node down");
        talk.wake(0, false);
        Check.dueState("down", talk::send);
        talk.wake(1, true);
        Check.dueState("another one that is up", talk::send);
        Check.tell(talk, "source 1");
        Check.due("another source", talk.send(), 0);
        talk.wake(1, false);
        Check.dueState("down again", talk::send);
        Check.due("NEXT", talk.count(4), 1);
        Twins.dueNothing("send by one that is down", twin -> {
            twin.wake(0, false);
            Check.dueState("send", twin::send);
            twin.wake(0, true);
        });
    }

    private static void sourceHasIt() {
        RepairTalk talk = Check.group(TWO);
        talk.ticks(7);
        talk.send();
        Check.dueAll("HAS, HEARD, FROM, WHEN", new long[] {talk.node(0, 1), talk.node(0, 2), talk.giver(0, 0, 0),
            talk.when(0, 0)}, 1, 0, 0, 7);
        // A new source may not have heard of all: HEARD is what it sends.
        talk.cut(0, true);
        talk.send();
        Check.tell(talk, "source 1");
        Check.due("send", talk.send(), 2);
        Check.dueAll("HAS, HEARD, missing", new long[] {talk.node(1, 1), talk.node(1, 2), talk.node(1, 3)}, 4, 2, 3);
        Check.due("no ASK by that", talk.timer(1, 1, 0), -1);
    }

    // Promises 14 to 16

    private static void wakes() {
        RepairTalk talk = Check.group("node;node down");
        Check.due("up already", talk.wake(0, true), false);
        Check.due("down already", talk.wake(1, false), false);
        Check.due("down", talk.wake(0, false), true);
        Check.due("up", talk.wake(1, true), true);
        Check.dueAll("UP", new long[] {talk.node(0, 0), talk.node(1, 0)}, 0, 1);
        Twins.dueNothing("up already", twin -> Check.due("wake(0, true)", twin.wake(0, true), false));
        Twins.dueNothing("down already", twin -> Check.due("wake(2, false)", twin.wake(2, false), false));
        Twins.dueNothing("down and up", twin -> {
            twin.wake(0, false);
            twin.wake(0, true);
        });
    }

    private static void wakesNone() {
        for (int node : new int[] {4, 6, -1, Integer.MIN_VALUE, Integer.MAX_VALUE}) {
            Twins.dueNothing("wake(" + node + ")", talk -> {
                Check.dueIndex("wake(" + node + ", true)", () -> talk.wake(node, true) ? 1 : 0);
                Check.dueIndex("wake(" + node + ", false)", () -> talk.wake(node, false) ? 1 : 0);
            });
        }
    }

    private static void cuts() {
        RepairTalk talk = Check.group("node;node;node;link 0 1 delay 1 loss 0;link 1 2 delay 1 loss 0");
        Check.due("whole already", talk.cut(1, false), false);
        Check.due("cut", talk.cut(1, true), true);
        Check.due("cut already", talk.cut(1, true), false);
        Check.dueAll("CUT", new long[] {talk.link(0, 4), talk.link(1, 4)}, 0, 1);
        Check.due("no way", talk.way(0, 2, false), -1);
        Check.due("whole", talk.cut(1, false), true);
        Check.due("a way", talk.way(0, 2, false), 2);
        // What is on its way comes over a LINK that was cut behind it.
        talk.send();
        talk.cut(0, true);
        Check.due("got by both", talk.ticks(3), 2);
        Twins.dueNothing("cut already", twin -> Check.due("cut(3, true)", twin.cut(3, true), false));
        Twins.dueNothing("whole already", twin -> Check.due("cut(0, false)", twin.cut(0, false), false));
        Twins.dueNothing("cut and whole", twin -> {
            twin.cut(0, true);
            twin.cut(0, false);
        });
    }

    private static void cutsNone() {
        for (int link : new int[] {4, 10, -1, Integer.MIN_VALUE, Integer.MAX_VALUE}) {
            Twins.dueNothing("cut(" + link + ")", talk -> {
                Check.dueIndex("cut(" + link + ", true)", () -> talk.cut(link, true) ? 1 : 0);
                Check.dueIndex("cut(" + link + ", false)", () -> talk.cut(link, false) ? 1 : 0);
            });
        }
    }

    private static void losses() {
        RepairTalk talk = Check.group("node;node;link 0 1 delay 1 loss 7");
        Check.due("as told", talk.loss(0, 0), 7);
        Check.due("0", talk.loss(0, 100), 0);
        Check.due("100", talk.loss(0, 100), 100);
        Check.due("LOSS", talk.link(0, 3), 100);
        talk.send();
        Check.due("lost", talk.gap(1, 0, 0), 0);
    }

    private static void noLoss() {
        for (int n : new int[] {101, -1, Integer.MIN_VALUE, Integer.MAX_VALUE}) {
            Twins.dueNothing("loss(0, " + n + ")", talk -> Check.dueArgument("loss(0, n)", () -> talk.loss(0, n)));
        }
    }

    private static void lossOfNone() {
        for (int link : new int[] {4, 10, -1, Integer.MIN_VALUE, Integer.MAX_VALUE}) {
            Twins.dueNothing("loss(" + link + ")", talk -> {
                Check.dueIndex("loss(" + link + ", 5)", () -> talk.loss(link, 5));
                Check.dueIndex("loss(" + link + ", 101)", () -> talk.loss(link, 101));
            });
        }
    }

    // Promise 17

    private static void given() {
        RepairTalk talk = MemberEdges.missed("4 0", "1 0");
        Check.due("GAP", talk.gap(1, 0, 0), 4);
        Check.due("give", talk.give(1, 0, true), true);
        Check.dueAll("HAS, HEARD, FROM, WHEN, GAP", new long[] {talk.node(1, 1), talk.node(1, 2), talk.giver(1, 0, 0),
            talk.when(1, 0), talk.gap(1, 0, 0)}, 3, 1, 1, 4, -1);
        Check.dueAll("no ASK", MemberEdges.timers(talk, 1, 0), -1, -1, -1, -1, -1, -1, -1, 0);
        RepairTalk far = Check.group("node;node;node down");
        for (int i = 0; i < 12; i++) {
            far.send();
        }
        Check.due("give the last", far.give(1, 11, true), true);
        Check.due("HEARD is it", far.node(1, 2), 11);
        Check.due("give the first", far.give(1, 0, true), true);
        Check.due("HEARD is it at least", far.node(1, 2), 11);
        Check.due("without ASKS", far.timer(1, 5, 0), -1);
        Check.due("given while down", far.give(2, 3, true), true);
        Check.due("HEARD while down", far.node(2, 2), 3);
        Check.due("no row", far.log(0, 2), 0);
    }

    private static void taken() {
        RepairTalk talk = MemberEdges.missed("4 0", "8 0");
        talk.ticks(5);
        Check.due("ANSWER", talk.timer(0, 0, 5), 16);
        Check.due("give", talk.give(0, 0, false), true);
        Check.dueAll("HAS, HEARD, FROM, WHEN, GAP, ANSWER, to whom", new long[] {talk.node(0, 1), talk.node(0, 2),
            talk.giver(0, 0, 0), talk.when(0, 0), talk.gap(0, 0, 0), talk.timer(0, 0, 5), talk.timer(0, 0, 6)},
            2, 1, -1, -1, 5, -1, -1);
        Check.due("no ASK by that", talk.timer(0, 0, 0), -1);
        Check.due("GAP behind", talk.gap(0, 0, 1), -1);
        Check.due("take the latest", talk.give(0, 1, false), true);
        Check.due("HEARD stays", talk.node(0, 2), 1);
        talk.ticks(7);
        Check.due("no repair of what it has not", talk.node(0, 8), 0);
    }

    private static void giftChangesNothing() {
        RepairTalk talk = Check.group(TWO);
        talk.send();
        talk.ticks(3);
        Check.due("it has it", talk.give(1, 0, true), false);
        Check.due("FROM stays", talk.giver(1, 0, 0), 0);
        Check.due("WHEN stays", talk.when(1, 0), 1);
        talk.loss(0, 100);
        talk.send();
        Check.due("it has it not", talk.give(1, 1, false), false);
        Check.due("GAP stays", talk.gap(1, 1, 0), 0);
        Check.due("HEARD stays", talk.node(1, 2), 0);
        Twins.dueNothing("all that is as told already", twin -> {
            for (int node = 0; node < 4; node++) {
                for (int packet = 0; packet < twin.count(4); packet++) {
                    boolean has = (twin.node(node, 1) >> packet & 1) == 1;
                    Check.due("give", twin.give(node, packet, has), false);
                }
            }
        });
    }

    private static void gaveTooEarly() {
        RepairTalk talk = Check.group(TWO);
        Check.dueState("none was sent", () -> talk.give(0, 0, true) ? 1 : 0);
        talk.send();
        Check.due("the first", talk.give(1, 0, true), true);
        Check.dueState("the second", () -> talk.give(1, 1, true) ? 1 : 0);
        Twins.dueNothing("give", twin -> {
            for (int packet = twin.count(4); packet < 12; packet++) {
                int p = packet;
                Check.dueState("give(0, " + p + ", true)", () -> twin.give(0, p, true) ? 1 : 0);
                Check.dueState("give(2, " + p + ", false)", () -> twin.give(2, p, false) ? 1 : 0);
            }
        });
        for (int i = 0; i < 11; i++) {
            talk.send();
        }
        Check.due("the twelfth", talk.give(1, 11, true), true);
    }

    private static void gaveToNone() {
        for (int node : new int[] {4, 6, -1, Integer.MIN_VALUE, Integer.MAX_VALUE}) {
            Twins.dueNothing("give to " + node, talk -> {
                Check.dueIndex("give(" + node + ", 0, true)", () -> talk.give(node, 0, true) ? 1 : 0);
                Check.dueIndex("give(" + node + ", 0, false)", () -> talk.give(node, 0, false) ? 1 : 0);
            });
        }
        for (int packet : new int[] {12, -1, Integer.MIN_VALUE, Integer.MAX_VALUE}) {
            Twins.dueNothing("give of " + packet, talk -> {
                Check.dueIndex("give(0, " + packet + ", true)", () -> talk.give(0, packet, true) ? 1 : 0);
                Check.dueIndex("give(0, " + packet + ", false)", () -> talk.give(0, packet, false) ? 1 : 0);
            });
        }
    }

    /** A NODE or a PACKET that there is not is told ahead of a PACKET that was not sent. */
    private static void gaveNoneToNone() {
        RepairTalk talk = Check.group("node");
        Check.dueIndex("give(1, 0, true)", () -> talk.give(1, 0, true) ? 1 : 0);
        Check.dueIndex("give(0, 12, true)", () -> talk.give(0, 12, true) ? 1 : 0);
        Check.dueIndex("give(1, 12, false)", () -> talk.give(1, 12, false) ? 1 : 0);
        Check.dueState("give(0, 11, false)", () -> talk.give(0, 11, false) ? 1 : 0);
    }
}

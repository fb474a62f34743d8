/** The boundaries of promises 6 to 9: what is of a node, and of a node and a packet. Times are worked out by hand. */
final class MemberEdges {
    private static final int[] FAR_OFF = {-1, Integer.MIN_VALUE, Integer.MAX_VALUE};
    private static final String TWO = "node;node;link 0 1 delay 1 loss 0";
    private static final String TWO_DOWN = "node;node down;link 0 1 delay 1 loss 0";
    /** Data from 0 to 1 takes 9 while the third link is cut, else 2: so a later packet can overtake. */
    private static final String OVERTAKING = "node;node;node;link 0 1 delay 9 loss 0;link 0 2 delay 1 loss 0;"
        + "link 2 1 delay 1 loss 0";

    private MemberEdges() {
    }

    static void all() {
        ofANode();
        ofEst();
        ofTimers();
        ofGaps();
    }

    private static void ofANode() {
        Check.edge(6, "UP (at first) or DOWN", MemberEdges::upAtFirst);
        Check.edge(6, "HAS: PACKETS 0 to 11, as bits (none at first)", MemberEdges::hasBits);
        Check.edge(6, "HEARD: the greatest number heard of (none at first)", MemberEdges::heardAtFirst);
        Check.edge(6, "HEARD is that of the MESSAGE, if that is more", MemberEdges::heardOnlyGrows);
        Check.edge(6, "3 those to HEARD that it has not, as bits", MemberEdges::missingBits);
        Check.edge(6, "AVE (16 at first)", () -> Check.due("AVE", Check.group("node").node(0, 6), 16));
        Check.edge(6, "REQUESTS, REPAIRS (that it sent), DUPLICATES, SUPPRESSED (0 at first, all)",
            MemberEdges::countsAtFirst);
        Check.edge(6, "numbered from 0 on): UP (at first) or DOWN; HAS: PACKETS 0 to 11, as bits (none at first)",
            MemberEdges::laterNodes);
        Check.edge(6, "if there was an ASK: none, and (then alone) AVE is (16 times REQS, less AVE) by 4 more",
            MemberEdges::aveByAskAlone);
        Check.edge(6, "(All quotients are rounded down.)", MemberEdges::aveIsRoundedDown);
        Check.edge(6, "if AVE is above 32 then, C1 is 1 and C2 2 more", MemberEdges::aveAbove32);
        Check.edge(6, "C2 2 more (32 at most)", MemberEdges::mostFactors);
        Check.edge(6, "if it is below 20, C1 and C2 are 1 less", MemberEdges::aveBelow20);
        Check.edge(6, "1 less (1, 2 at least)", MemberEdges::leastFactors);
        Check.edge(6, "if it had it, and it is a repair: DUPLICATES 1 more", MemberEdges::duplicates);
        Check.edge(6, "An ANSWER of it is none then, SUPPRESSED 1 more, if there was one",
            MemberEdges::suppressedByPacket);
        Check.edge(6, "One that is DOWN hears nothing", MemberEdges::downHearsNothing);
        Check.edge(6, "IndexOutOfBoundsException: there is no such NODE", MemberEdges::noSuchNode);
        Check.edge(6, "NoSuchElementException: another what.", MemberEdges::noSuchThingOfANode);
    }

    private static void ofEst() {
        Check.edge(7, "EST of each other NODE (4 at first)", MemberEdges::estAtFirst);
        Check.edge(7, "SENT and CAME of the latest report (none at first)", MemberEdges::noEchoAtFirst);
        Check.edge(7, "if the sender has a report of it, that one's SENT, and how long ago it CAME",
            MemberEdges::latestEcho);
        Check.edge(7, "(TICK less that SENT less how long ago) by 2, 1 at least", MemberEdges::leastEst);
        Check.edge(7, "(All quotients are rounded down.)", MemberEdges::estIsRoundedDown);
        Check.edge(7, "One that is DOWN hears nothing", MemberEdges::downHearsNoReport);
        Check.edge(7, "IndexOutOfBoundsException: there is no such NODE", MemberEdges::estOfNone);
        Check.edge(7, "IllegalArgumentException: both are one.", MemberEdges::estOfItself);
    }

    private static void ofTimers() {
        Check.edge(8, "0 to 4: NONE without an ASK", MemberEdges::noAsk);
        Check.edge(8, "5 ANSWER (NONE), 6 to whom (NONE without an ANSWER)", MemberEdges::noAnswer);
        Check.edge(8, "HOLD (0 at first)", () -> Check.due("HOLD", Check.group("node").timer(0, 11, 7), 0));
        Check.edge(8, "by a repair HOLD is TICK and 3 times EST of the sender", MemberEdges::holdByRepairAlone);
        Check.edge(8, "for which there is no ASK", MemberEdges::askStays);
        Check.edge(8, "each PACKET to HEARD, rising, that it has not", MemberEdges::asksRising);
        Check.edge(8, "EST of the SOURCE (1 of itself)", MemberEdges::sourceAsks);
        Check.edge(8, "BACK, ASKED, REQS and IGNORE being 0", MemberEdges::askBeginsAnew);
        Check.edge(8, "TICK and, 1 at least,", MemberEdges::leastTime);
        Check.edge(8, "(All quotients are rounded down.)", MemberEdges::timesAreRoundedDown);
        Check.edge(8, "DRAW modulo (the second one times how far by 4, and 1)", MemberEdges::drawnTime);
        Check.edge(8, "ANSWER is TIME by D1, D2 and EST of the sender", MemberEdges::drawnAnswer);
        Check.edge(8, "(The DRAW always.)", MemberEdges::drawAlways);
        Check.edge(8, "times 2 to the BACK (0 of an ANSWER)", MemberEdges::noBackOfAnAnswer);
        Check.edge(8, "an ASK of TICK at most: BACK is 1 more (5 at most)", MemberEdges::mostBack);
        Check.edge(8, "BACK 0 to 5", MemberEdges::mostBackByHearing);
        Check.edge(8, "if TICK is IGNORE at least", MemberEdges::ignoreEnds);
        Check.edge(8, "IGNORE is TICK and half the time till then", MemberEdges::halfOfOne);
        Check.edge(8, "each PACKET, rising: an ASK of TICK at most", MemberEdges::askIsDue);
        Check.edge(8, "or an ANSWER of TICK at most", MemberEdges::answerIsDue);
        Check.edge(8, "if there is no ANSWER", MemberEdges::answerStays);
        Check.edge(8, "TICK is HOLD at least", MemberEdges::holdEnds);
        Check.edge(8, "IndexOutOfBoundsException: there is no such NODE, LINK, PACKET (0 to 11), MESSAGE.",
            MemberEdges::timerOfNone);
        Check.edge(8, "NoSuchElementException: another what.", MemberEdges::noSuchTimer);
    }

    private static void ofGaps() {
        Check.edge(9, "a GAP (none at first)", MemberEdges::noGap);
        Check.edge(9, "2, without a WAY", MemberEdges::gapWithoutWay);
        Check.edge(9, "1, if that ABOVE it is not REACHED (and not the sender), with the GAP of that one behind it",
            MemberEdges::gapBehindGap);
        Check.edge(9, "0, if the LINK lost it", MemberEdges::gapByLoss);
        Check.edge(9, "3, if it is REACHED, but there were 64", MemberEdges::gapByCrowd);
        Check.edge(9, "none, if it is on its way", MemberEdges::gapOnItsWay);
        Check.edge(9, "By data each other NODE has a GAP", MemberEdges::gapByDataAlone);
        Check.edge(9, "each other NODE has a GAP of the PACKET by that", MemberEdges::noGapOfLaterNodes);
        Check.edge(9, "it HAS it, the GAP is none", MemberEdges::gapEnds);
        Check.edge(9, "by data that it has not its GAP is 4", MemberEdges::gapOfDown);
        Check.edge(9, "The GAP of a NODE and a PACKET (k 0), that behind it (1), and on; NONE without.",
            MemberEdges::gapOfNoSuchK);
        Check.edge(9, "IndexOutOfBoundsException: there is no such NODE, LINK, PACKET (0 to 11), MESSAGE.",
            MemberEdges::gapOfNone);
    }

    static long[] timers(RepairTalk talk, int node, int packet) {
        long[] all = new long[8];
        for (int what = 0; what < all.length; what++) {
            all[what] = talk.timer(node, packet, what);
        }
        return all;
    }

    /**
     * TICK is 4: node 1 was down as packet 0 came, heard of it by packet 1 at TICK 3, and asks (C2 being 0) at 3 and
     * C1, or at 4 by a C1 of 0.
     */
    static RepairTalk missed(String request, String repair) {
        RepairTalk talk = Check.group(TWO_DOWN + ";request " + request + ";repair " + repair);
        talk.send();
        talk.ticks(2);
        talk.wake(1, true);
        talk.send();
        Check.due("packet 1", talk.ticks(2), 1);
        return talk;
    }

    /**
     * Node 1 got packet 0 by so many REQS, with an AVE of 16 ahead of it, and C1, C2 told just ahead of it, too. By a
     * C1 of 2 it asks at 5 and at 9, by 0 from 4 on at each TICK; each answer comes 2 and D1 behind the first asking.
     */
    private static RepairTalk gotAfter(int reqs, String request) {
        RepairTalk talk;
        if (reqs < 3) {
            talk = missed("2 0", reqs == 1 ? "1 0" : "3 0");
            talk.ticks(reqs == 1 ? 4 : 6);
        } else {
            talk = missed("0 0", reqs - 2 + " 0");
            talk.ticks(reqs);
        }
        Check.due("REQS", talk.timer(1, 0, 4), reqs);
        Check.tell(talk, "request " + request);
        Check.due("got", talk.ticks(1), 1);
        return talk;
    }

    private static void dueAdapted(String what, RepairTalk talk, int ave, int c1, int c2) {
        Check.dueAll(what + ": AVE, C1, C2", new long[] {talk.node(1, 6), talk.node(1, 4), talk.node(1, 5)},
            ave, c1, c2);
    }

    /** Packet 0 is behind packet 1: at TICK 2 node 1 asks for it (later), at 9 it is there without a request. */
    private static RepairTalk overtaken(String request) {
        RepairTalk talk = Check.group(OVERTAKING + ";request " + request);
        overtake(talk);
        return talk;
    }

    private static void overtake(RepairTalk talk) {
        talk.cut(2, true);
        talk.send();
        talk.cut(2, false);
        talk.send();
        Check.due("got by all", talk.ticks(10), 4);
    }

    // Promise 6

    private static void upAtFirst() {
        RepairTalk talk = Check.group("node;node down");
        Check.due("up", talk.node(0, 0), 1);
        Check.due("down, as told", talk.node(1, 0), 0);
    }

    private static void hasBits() {
        RepairTalk talk = Check.group(TWO);
        Check.due("none", talk.node(0, 1), 0);
        for (int i = 0; i < 12; i++) {
            talk.send();
            Check.due("to " + i, talk.node(0, 1), (2 << i) - 1);
        }
        Check.due("none yet", talk.node(1, 1), 0);
        talk.give(1, 11, true);
        Check.due("the last", talk.node(1, 1), 0x800);
        talk.give(1, 0, true);
        Check.due("the first, too", talk.node(1, 1), 0x801);
        talk.ticks(2);
        Check.due("all", talk.node(1, 1), 0xFFF);
    }

    private static void heardAtFirst() {
        RepairTalk talk = Check.group(TWO);
        Check.due("none", talk.node(0, 2), -1);
        talk.send();
        Check.due("of the source", talk.node(0, 2), 0);
        Check.due("of the other", talk.node(1, 2), -1);
        talk.ticks(2);
        Check.due("of the other", talk.node(1, 2), 0);
        for (int i = 0; i < 11; i++) {
            talk.send();
        }
        talk.ticks(2);
        Check.due("at most", talk.node(1, 2), 11);
    }

    private static void heardOnlyGrows() {
        RepairTalk talk = Check.group(OVERTAKING);
        talk.cut(2, true);
        talk.send();
        talk.cut(2, false);
        talk.send();
        talk.ticks(3);
        Check.due("by packet 1", talk.node(1, 2), 1);
        talk.ticks(7);
        Check.due("packet 0 is there", talk.node(1, 1), 3);
        Check.due("HEARD stays", talk.node(1, 2), 1);
    }

    private static void missingBits() {
        RepairTalk talk = Check.group(TWO);
        talk.cut(0, true);
        Check.due("without HEARD", talk.node(1, 3), 0);
        for (int i = 0; i < 12; i++) {
            talk.send();
        }
        Check.due("of the source", talk.node(0, 3), 0);
        Check.due("without HEARD still", talk.node(1, 3), 0);
        talk.give(1, 0, true);
        Check.due("to 0", talk.node(1, 3), 0);
        talk.give(1, 0, false);
        Check.due("0 itself", talk.node(1, 3), 1);
        talk.give(1, 11, true);
        Check.due("to 11", talk.node(1, 3), 0x7FF);
        talk.give(1, 11, false);
        Check.due("11 itself", talk.node(1, 3), 0xFFF);
    }

    private static void countsAtFirst() {
        RepairTalk talk = Check.group(TWO);
        for (int what = 7; what <= 10; what++) {
            Check.due("node(1, " + what + ")", talk.node(1, what), 0);
        }
        RepairTalk one = missed("4 0", "4 0");
        one.ticks(8);
        Check.due("nothing yet that node 0 sent", one.node(0, 8), 0);
        Check.due("a request", one.node(1, 7), 1);
        one.ticks(1);
        Check.due("a repair", one.node(0, 8), 1);
    }

    /** Told in the middle of a talk, a NODE is as one of the first text is. */
    private static void laterNodes() {
        RepairTalk talk = missed("4 0", "1 0");
        talk.ticks(20);
        Check.tell(talk, "node;node down");
        for (int node = 2; node < 4; node++) {
            long[] all = new long[11];
            for (int what = 0; what < all.length; what++) {
                all[what] = talk.node(node, what);
            }
            Check.dueAll("node " + node, all, 3 - node, 0, -1, 0, 4, 0, 16, 0, 0, 0, 0);
            Check.dueAll("est", new long[] {talk.est(node, 0), talk.est(1, node), talk.est(2, 3)}, 4, 4, 4);
            for (int packet = 0; packet < 12; packet++) {
                Check.dueAll("packet " + packet, timers(talk, node, packet), -1, -1, -1, -1, -1, -1, -1, 0);
                Check.due("WHEN", talk.when(node, packet), -1);
                Check.due("FROM", talk.giver(node, packet, 0), -1);
            }
        }
    }

    private static void aveByAskAlone() {
        RepairTalk talk = Check.group(TWO);
        talk.send();
        Check.due("got", talk.ticks(2), 1);
        dueAdapted("without an ASK", talk, 16, 8, 8);
        talk.give(1, 0, false);
        talk.send();
        talk.ticks(2);
        Check.due("an ASK", talk.timer(1, 0, 0) > 0, true);
        talk.give(1, 0, true);
        dueAdapted("by a gift", talk, 16, 8, 8);
        dueAdapted("by an ASK", gotAfter(3, "8 8"), 24, 8, 8);
    }

    /** 16, and each time less a quarter of it that is rounded up, as (0 less AVE) by 4 is rounded down. */
    private static void aveIsRoundedDown() {
        RepairTalk talk = Check.group(OVERTAKING + ";request 32 32");
        int[] aves = {12, 9, 6, 4, 3, 2};
        for (int i = 0; i < aves.length; i++) {
            Check.tell(talk, "request 32 32");
            overtake(talk);
            Check.due("AVE " + i, talk.node(1, 6), aves[i]);
        }
    }

    private static void aveAbove32() {
        dueAdapted("AVE of 32", gotAfter(5, "10 10"), 32, 10, 10);
        dueAdapted("AVE of 36", gotAfter(6, "10 10"), 36, 11, 12);
        dueAdapted("AVE of 33", aveOf33(), 33, 11, 12);
    }

    /** 12 by no REQS, then by 6 a quarter of 96 less 12 more. Node 2 answers first, 4 behind the TICK it heard. */
    private static RepairTalk aveOf33() {
        RepairTalk talk = overtaken("32 0");
        Check.due("AVE of 12", talk.node(1, 6), 12);
        Check.tell(talk, "request 0 0;repair 4 0");
        talk.wake(1, false);
        talk.send();
        talk.ticks(3);
        talk.wake(1, true);
        talk.send();
        talk.ticks(9);
        Check.due("REQS", talk.timer(1, 2, 4), 6);
        Check.tell(talk, "request 10 10");
        Check.due("got", talk.ticks(1), 1);
        return talk;
    }

    private static void mostFactors() {
        dueAdapted("from 30, 29", gotAfter(6, "30 29"), 36, 31, 31);
        dueAdapted("from 31, 30", gotAfter(6, "31 30"), 36, 32, 32);
        dueAdapted("from 31, 31", gotAfter(6, "31 31"), 36, 32, 32);
        dueAdapted("from 32, 32", gotAfter(6, "32 32"), 36, 32, 32);
    }

    private static void aveBelow20() {
        dueAdapted("AVE of 16", gotAfter(1, "10 10"), 16, 9, 9);
        RepairTalk talk = gotAfter(2, "10 10");
        dueAdapted("AVE of 20", talk, 20, 10, 10);
        // A second time, by one asking at 16 that is answered at 18: 20 and a quarter of 16 less 20.
        Check.tell(talk, "request 2 0;repair 1 0");
        talk.wake(1, false);
        talk.send();
        talk.ticks(2);
        talk.wake(1, true);
        talk.send();
        talk.ticks(6);
        Check.due("REQS", talk.timer(1, 2, 4), 1);
        Check.tell(talk, "request 10 10");
        Check.due("got", talk.ticks(1), 1);
        dueAdapted("AVE of 19", talk, 19, 9, 9);
    }

    private static void leastFactors() {
        dueAdapted("from 2, 3", gotAfter(1, "2 3"), 16, 1, 2);
        dueAdapted("from 1, 2", gotAfter(1, "1 2"), 16, 1, 2);
        dueAdapted("from 3, 2", gotAfter(1, "3 2"), 16, 2, 2);
        dueAdapted("from 1, 4", gotAfter(1, "1 4"), 16, 1, 3);
        // They are 1 and 2 at least then, also if they were told less.
        dueAdapted("from 0, 0", gotAfter(1, "0 0"), 16, 1, 2);
        dueAdapted("from 0, 1", gotAfter(1, "0 1"), 16, 1, 2);
    }

    /** Nodes 0 and 1 have packet 0, that node 2 asks for at 7; both answer it at 10, so that both come at 11. */
    private static RepairTalk bothAnswer() {
        RepairTalk talk = Check.group("node;node;node down;link 0 2 delay 1 loss 0;link 1 2 delay 1 loss 0;"
            + "link 0 1 delay 1 loss 0;request 4 0;repair 2 0");
        talk.send();
        talk.ticks(2);
        talk.wake(2, true);
        talk.send();
        talk.ticks(9);
        Check.due("TICK", talk.count(14), 11);
        return talk;
    }

    private static void duplicates() {
        RepairTalk talk = bothAnswer();
        Check.due("got", talk.ticks(1), 1);
        Check.dueAll("of 0 and 1, that had it, and of 2, that had it by then",
            new long[] {talk.node(0, 9), talk.node(1, 9), talk.node(2, 9)}, 1, 1, 1);
        RepairTalk one = missed("4 0", "1 0");
        one.ticks(7);
        Check.due("it has it", one.node(1, 1), 3);
        Check.due("of one that had it not", one.node(1, 9), 0);
        RepairTalk data = Check.group(TWO);
        data.send();
        data.give(1, 0, true);
        data.ticks(2);
        Check.due("of data that it had", data.node(1, 9), 0);
    }

    private static void suppressedByPacket() {
        RepairTalk talk = bothAnswer();
        talk.ticks(1);
        Check.dueAll("without an ANSWER", new long[] {talk.node(0, 10), talk.node(1, 10), talk.node(2, 10)}, 0, 0, 0);
        // Node 1 is nearer to node 2 than node 0 is, so its repair is there ahead of node 0's time.
        RepairTalk near = Check.group("node;node;node down;link 0 1 delay 2 loss 0;link 1 2 delay 1 loss 0;"
            + "request 4 0;repair 4 0");
        near.send();
        near.ticks(4);
        near.wake(2, true);
        near.send();
        // Node 2 hears at 7, asks at 11; 1 answers at 16, which is at 0 by 18; 0 heard at 14 and would answer at 18.
        near.ticks(14);
        Check.due("ANSWER of 0", near.timer(0, 0, 5), 18);
        near.ticks(1);
        Check.due("none", near.timer(0, 0, 5), -1);
        Check.due("REPAIRS", near.node(0, 8), 0);
        Check.due("SUPPRESSED", near.node(0, 10), 1);
        Check.due("SUPPRESSED of 2, that had none", near.node(2, 10), 0);
        answerEndsByData();
    }

    /** Node 1 was given packet 0 ahead of its data, that comes at 9; it would answer node 2 at 36. */
    private static void answerEndsByData() {
        RepairTalk talk = Check.group("node;node;node;link 0 1 delay 9 loss 0;link 1 2 delay 1 loss 0;request 2 0;"
            + "repair 32 0;session 1");
        talk.send();
        talk.give(1, 0, true);
        talk.ticks(1);
        Check.tell(talk, "session 0");
        talk.ticks(8);
        Check.due("ANSWER", talk.timer(1, 0, 5), 36);
        Check.due("SUPPRESSED", talk.node(1, 10), 0);
        talk.ticks(1);
        Check.due("none by data", talk.timer(1, 0, 5), -1);
        Check.due("SUPPRESSED by data", talk.node(1, 10), 1);
        Check.due("HOLD stays by data", talk.timer(1, 0, 7), 0);
    }

    private static void downHearsNothing() {
        RepairTalk talk = missed("4 0", "1 0");
        talk.ticks(6);
        Check.due("the repair is on its way", talk.flight(0, 3), 2);
        talk.wake(1, false);
        Check.due("got", talk.ticks(1), 0);
        Check.due("it is gone", talk.count(12), 0);
        Check.dueAll("as it was", new long[] {talk.node(1, 1), talk.node(1, 2), talk.timer(1, 0, 0),
            talk.timer(1, 0, 7), talk.gap(1, 0, 0)}, 2, 1, 15, 0, 4);
        // A request, too.
        RepairTalk asked = missed("4 0", "1 0");
        asked.ticks(4);
        Check.due("the request is on its way", asked.flight(0, 3), 1);
        asked.wake(0, false);
        asked.ticks(1);
        Check.due("no ANSWER", asked.timer(0, 0, 5), -1);
    }

    private static void noSuchNode() {
        RepairTalk talk = Check.group("node;node");
        Check.dueIndex("node(2, 0)", () -> talk.node(2, 0));
        Check.dueIndex("node(5, 0)", () -> talk.node(5, 0));
        for (int node : FAR_OFF) {
            Check.dueIndex("node(" + node + ", 0)", () -> talk.node(node, 0));
            Check.dueIndex("node(" + node + ", 11)", () -> talk.node(node, 11));
        }
        Check.due("the last", talk.node(1, 0), 1);
    }

    private static void noSuchThingOfANode() {
        RepairTalk talk = Check.group("node");
        Check.dueElement("node(0, 11)", () -> talk.node(0, 11));
        for (int what : FAR_OFF) {
            Check.dueElement("node(0, " + what + ")", () -> talk.node(0, what));
        }
        Check.due("the last", talk.node(0, 10), 0);
    }

    // Promise 7

    private static void estAtFirst() {
        RepairTalk talk = Check.group("node;node");
        Check.due("est(0, 1)", talk.est(0, 1), 4);
        Check.due("est(1, 0)", talk.est(1, 0), 4);
        Check.tell(talk, "node;node;node;node");
        Check.due("est(0, 5)", talk.est(0, 5), 4);
        Check.due("est(5, 4)", talk.est(5, 4), 4);
    }

    /** With a PERIOD of 20 node 0 reports at 0, 20 and 40, node 1 at 19; a report tells of what was there by then. */
    private static void noEchoAtFirst() {
        RepairTalk talk = Check.group("node;node;link 0 1 delay 9 loss 0;session 20");
        talk.ticks(28);
        Check.due("est(0, 1) ahead of its echo", talk.est(0, 1), 4);
        talk.ticks(1);
        Check.due("est(0, 1) by its echo at 28", talk.est(0, 1), 9);
        talk.ticks(20);
        Check.due("est(1, 0) by the reports of 0 and 20, without one", talk.est(1, 0), 4);
        talk.ticks(1);
        Check.due("est(1, 0) by its echo at 49", talk.est(1, 0), 9);
    }

    /** By 9 each way till TICK 30, then by 2: node 1 reports at 19, 39 and 59, always of node 0's latest one. */
    private static void latestEcho() {
        RepairTalk talk = Check.group(OVERTAKING + ";session 20");
        talk.cut(2, true);
        talk.ticks(29);
        Check.due("0 there at 9, from 19 back at 28", talk.est(0, 1), 9);
        talk.ticks(1);
        talk.cut(2, false);
        talk.ticks(12);
        Check.due("20 there at 29, from 39 back at 41, half of 11", talk.est(0, 1), 5);
        talk.ticks(1);
        Check.due("19 there at 28, from 40 back at 42, half of 11", talk.est(1, 0), 5);
        talk.ticks(19);
        Check.due("40 there at 42, from 59 back at 61", talk.est(0, 1), 2);
    }

    private static void leastEst() {
        RepairTalk talk = Check.group(TWO + ";session 2");
        talk.ticks(1);
        Check.due("ahead", talk.est(0, 1), 4);
        talk.ticks(10);
        Check.due("est(0, 1)", talk.est(0, 1), 1);
        Check.due("est(1, 0)", talk.est(1, 0), 1);
    }

    /** 2 there at TICK 2, and, the short link being cut, 3 back from TICK 19: 22 less 0 less 17 is 5. */
    private static void estIsRoundedDown() {
        RepairTalk talk = Check.group("node;node;node;link 0 1 delay 2 loss 0;link 0 2 delay 1 loss 0;"
            + "link 1 2 delay 2 loss 0;session 20");
        talk.ticks(3);
        talk.cut(0, true);
        talk.ticks(19);
        Check.due("ahead", talk.est(0, 1), 4);
        talk.ticks(1);
        Check.due("half of 5", talk.est(0, 1), 2);
    }

    private static void downHearsNoReport() {
        RepairTalk talk = Check.group("node;node;link 0 1 delay 3 loss 0;session 5");
        // Node 1 reports at 4, 9 ..; its echo of node 0's report comes at 7.
        talk.ticks(7);
        talk.wake(0, false);
        talk.ticks(1);
        talk.wake(0, true);
        Check.due("est(0, 1)", talk.est(0, 1), 4);
        talk.ticks(5);
        Check.due("by the next one at 12", talk.est(0, 1), 3);
    }

    private static void estOfNone() {
        RepairTalk talk = Check.group("node;node");
        for (int node : new int[] {2, 6, -1, Integer.MIN_VALUE, Integer.MAX_VALUE}) {
            Check.dueIndex("est(" + node + ", 0)", () -> talk.est(node, 0));
            Check.dueIndex("est(0, " + node + ")", () -> talk.est(0, node));
            Check.dueIndex("est(" + node + ", " + node + ")", () -> talk.est(node, node));
        }
    }

    private static void estOfItself() {
        RepairTalk talk = Check.group("node;node");
        Check.dueArgument("est(0, 0)", () -> talk.est(0, 0));
        Check.dueArgument("est(1, 1)", () -> talk.est(1, 1));
    }

    // Promise 8

    private static void noAsk() {
        RepairTalk talk = Check.group(TWO);
        Check.dueAll("at first", timers(talk, 1, 11), -1, -1, -1, -1, -1, -1, -1, 0);
        RepairTalk asks = missed("4 0", "1 0");
        Check.dueAll("of a packet that it has", timers(asks, 1, 1), -1, -1, -1, -1, -1, -1, -1, 0);
        Check.dueAll("an ASK", timers(asks, 1, 0), 7, 0, 0, 0, 0, -1, -1, 0);
        asks.ticks(6);
        Check.dueAll("asked", timers(asks, 1, 0), 15, 1, 11, 1, 1, -1, -1, 0);
        asks.ticks(1);
        Check.dueAll("none by the repair at 10", timers(asks, 1, 0), -1, -1, -1, -1, -1, -1, -1, 22);
    }

    private static void noAnswer() {
        RepairTalk talk = missed("4 0", "1 0");
        talk.ticks(4);
        Check.dueAll("not asked yet", timers(talk, 0, 0), -1, -1, -1, -1, -1, -1, -1, 0);
        talk.ticks(1);
        Check.dueAll("asked by 1 at 8", timers(talk, 0, 0), -1, -1, -1, -1, -1, 9, 1, 0);
        talk.ticks(1);
        Check.dueAll("answered at 9", timers(talk, 0, 0), -1, -1, -1, -1, -1, -1, -1, 21);
    }

    private static void holdByRepairAlone() {
        RepairTalk talk = bothAnswer();
        Check.due("HOLD of one that answered at 10", talk.timer(1, 0, 7), 22);
        Check.due("HOLD of one that had data alone", talk.timer(2, 1, 7), 0);
        talk.ticks(1);
        for (int node = 0; node < 3; node++) {
            Check.due("HOLD by the repair at 11 of " + node, talk.timer(node, 0, 7), 23);
        }
    }

    private static void askStays() {
        RepairTalk talk = missed("8 0", "1 0");
        Check.due("ASK", talk.timer(1, 0, 0), 11);
        talk.send();
        talk.ticks(2);
        Check.due("packet 2 is there", talk.node(1, 1), 6);
        Check.due("ASK stays", talk.timer(1, 0, 0), 11);
    }

    /** The draws 16838 and 5758, modulo 33, are 8 and 16: packet 0 has the first one, packet 3, to HEARD, one, too. */
    private static void asksRising() {
        RepairTalk talk = Check.group(TWO_DOWN + ";request 0 32");
        talk.send();
        talk.send();
        talk.ticks(2);
        talk.wake(1, true);
        talk.send();
        talk.ticks(1);
        talk.seed(1);
        talk.ticks(1);
        Check.due("ASK of 0", talk.timer(1, 0, 0), 3 + 8);
        Check.due("ASK of 1", talk.timer(1, 1, 0), 3 + 16);
        Check.due("no ASK of 2, that it has", talk.timer(1, 2, 0), -1);
        // A report tells of a packet that was lost: HEARD itself is asked for.
        RepairTalk report = Check.group("node;node;link 0 1 delay 1 loss 100;session 2;request 4 0");
        report.send();
        report.loss(0, 0);
        report.ticks(2);
        Check.due("HEARD", report.node(1, 2), 0);
        Check.due("ASK of HEARD", report.timer(1, 0, 0), 1 + 4);
        Check.due("no ASK above HEARD", report.timer(1, 1, 0), -1);
        // By a report without HEARD nothing is asked for.
        RepairTalk none = Check.group(TWO + ";session 1");
        none.ticks(3);
        Check.due("no ASK", none.timer(1, 0, 0), -1);
    }

    /** Packet 0 is taken from the source, that hears of it by node 1's report at TICK 3. */
    private static RepairTalk sourceAsks(String request) {
        RepairTalk talk = Check.group(TWO + ";session 3;request " + request);
        talk.send();
        talk.ticks(2);
        talk.give(0, 0, false);
        talk.ticks(2);
        return talk;
    }

    private static void sourceAsks() {
        Check.due("16 by 4", sourceAsks("16 0").timer(0, 0, 0), 3 + 4);
        Check.due("32 by 4", sourceAsks("32 0").timer(0, 0, 0), 3 + 8);
        Check.due("the other's is by 4 times that", missed("16 0", "0 0").timer(1, 0, 0), 3 + 16);
        Check.due("without an echo", sourceAsksUntold(0).timer(0, 0, 0), 3 + 4);
        Check.due("of one that is source no more", sourceAsksUntold(1).timer(0, 0, 0), 3 + 16);
    }

    /** The same without a report of node 0, so that its EST of node 1 is 4, with a source told anew. */
    private static RepairTalk sourceAsksUntold(int source) {
        RepairTalk talk = Check.group(TWO + ";session 3;request 16 0");
        talk.send();
        talk.wake(0, false);
        talk.ticks(2);
        talk.wake(0, true);
        talk.give(0, 0, false);
        Check.tell(talk, "source " + source);
        talk.ticks(2);
        return talk;
    }

    private static void askBeginsAnew() {
        RepairTalk talk = gotAfter(1, "4 0");
        talk.give(1, 0, false);
        Check.due("no ASK", talk.timer(1, 0, 0), -1);
        talk.send();
        talk.ticks(2);
        Check.due("an ASK", talk.timer(1, 0, 0) > 10, true);
        Check.dueAll("anew", new long[] {talk.timer(1, 0, 1), talk.timer(1, 0, 2), talk.timer(1, 0, 3),
            talk.timer(1, 0, 4)}, 0, 0, 0, 0);
    }

    private static void leastTime() {
        RepairTalk talk = missed("0 0", "0 0");
        Check.due("ASK", talk.timer(1, 0, 0), 3 + 1);
        talk.ticks(1);
        Check.due("ASK by a BACK of 1", talk.timer(1, 0, 0), 4 + 1);
        talk.ticks(1);
        Check.due("ANSWER", talk.timer(0, 0, 5), 5 + 1);
        RepairTalk on = missed("0 0", "32 0");
        on.ticks(8);
        Check.due("BACK", on.timer(1, 0, 1), 5);
        Check.due("ASK by a BACK of 5", on.timer(1, 0, 0), 11 + 1);
    }

    private static void timesAreRoundedDown() {
        // The source counts itself 1 off: 3 by 4 is 0 (so 1), 7 by 4 is 1, 8 by 4 is 2, 31 by 4 is 7.
        Check.due("3", sourceAsks("3 0").timer(0, 0, 0), 3 + 1);
        Check.due("7", sourceAsks("7 0").timer(0, 0, 0), 3 + 1);
        Check.due("8", sourceAsks("8 0").timer(0, 0, 0), 3 + 2);
        Check.due("31", sourceAsks("31 0").timer(0, 0, 0), 3 + 7);
        Check.due("31 and 3, drawn", sourceAsks("31 3").timer(0, 0, 0), 3 + 7);
    }

    /** By EST of 4 the modulus is C2 and 1; the first draw by the seed 1 is 16838. */
    private static void drawnTime() {
        int[][] cases = {{0, 0}, {1, 16838 % 2}, {7, 16838 % 8}, {8, 16838 % 9}, {16, 16838 % 17}, {32, 16838 % 33}};
        for (int[] one : cases) {
            RepairTalk talk = Check.group(TWO_DOWN + ";request 4 " + one[0]);
            talk.send();
            talk.ticks(2);
            talk.wake(1, true);
            talk.send();
            talk.ticks(1);
            talk.seed(1);
            talk.ticks(1);
            Check.due("by a C2 of " + one[0], talk.timer(1, 0, 0), 3 + 4 + one[1]);
        }
    }

    /** The same of an ANSWER: heard at 8 by EST of 4, and at 16 by EST of 1 (2 and 16838 modulo 3). */
    private static void drawnAnswer() {
        int[][] cases = {{0, 0}, {8, 16838 % 9}, {32, 16838 % 33}};
        for (int[] one : cases) {
            RepairTalk talk = missed("4 0", "3 " + one[0]);
            talk.ticks(4);
            talk.seed(1);
            talk.ticks(1);
            Check.due("by a D2 of " + one[0], talk.timer(0, 0, 5), 8 + 3 + one[1]);
        }
        RepairTalk near = Check.group(TWO + ";session 2");
        near.ticks(11);
        Check.due("EST", near.est(0, 1), 1);
        Check.tell(near, "session 0;request 4 0;repair 8 8");
        near.wake(1, false);
        near.send();
        near.ticks(2);
        near.wake(1, true);
        near.send();
        near.ticks(3);
        near.seed(1);
        near.ticks(1);
        Check.due("by EST of 1", near.timer(0, 0, 5), 16 + 2 + 16838 % 3);
    }

    /** SEED 1 goes on to these: an ASK draws once, asking once and once for the LINK, an ANSWER once. */
    private static void drawAlways() {
        RepairTalk talk = Check.group(TWO_DOWN + ";request 0 0;repair 0 0");
        talk.send();
        talk.ticks(2);
        talk.wake(1, true);
        talk.send();
        talk.ticks(1);
        talk.seed(1);
        talk.ticks(1);
        dueSeed("an ASK", talk, 1103527590);
        talk.ticks(1);
        dueSeed("asked", talk, 662824084);
        talk.ticks(1);
        dueSeed("an ANSWER, and asked again", talk, -1778682749);
    }

    private static void dueSeed(String what, RepairTalk talk, int want) {
        int seed = talk.seed(0);
        talk.seed(seed);
        Check.due("SEED by " + what, seed, want);
    }

    /** Node 1 asked (BACK of 1) and got packet 0; at 37 it is asked for it by node 2. */
    private static void noBackOfAnAnswer() {
        RepairTalk talk = Check.group("node;node down;node down;link 0 1 delay 1 loss 0;link 1 2 delay 1 loss 0;"
            + "request 4 0;repair 3 0");
        talk.send();
        talk.ticks(3);
        talk.wake(1, true);
        talk.send();
        talk.ticks(10);
        Check.due("BACK", talk.timer(1, 0, 1), 1);
        talk.ticks(17);
        Check.due("it has it", talk.node(1, 1), 3);
        Check.tell(talk, "request 4 0");
        talk.wake(2, true);
        talk.send();
        talk.ticks(8);
        Check.due("ANSWER", talk.timer(1, 0, 5), 37 + 3);
        Check.due("to whom", talk.timer(1, 0, 6), 2);
    }

    /** By a C1 of 1 the times are 1, then twice as long by each asking, 32 at most. */
    private static void mostBack() {
        RepairTalk talk = missed("1 0", "1 0");
        talk.wake(0, false);
        int[][] asks = {{4, 1, 6, 5}, {6, 2, 10, 8}, {10, 3, 18, 14}, {18, 4, 34, 26}, {34, 5, 66, 50},
            {66, 5, 98, 82}};
        for (int[] one : asks) {
            talk.ticks(one[0] + 1 - talk.count(14));
            Check.dueAll("asked at " + one[0], new long[] {talk.timer(1, 0, 1), talk.timer(1, 0, 0),
                talk.timer(1, 0, 2)}, one[1], one[2], one[3]);
        }
        Check.due("ASKED", talk.timer(1, 0, 3), 6);
    }

    /**
     * Node 1 asks at 11, so that its IGNORE is 19 and its ASK 27; node 2 hears that, and then (C1 being 0) asks at each
     * TICK from 13 on, which node 1 hears from 14 on. Node 0 answers not ahead of 44.
     */
    private static RepairTalk twoAskers() {
        RepairTalk talk = Check.group("node;node down;node down;link 0 1 delay 1 loss 0;link 0 2 delay 1 loss 0;"
            + "link 1 2 delay 1 loss 0;request 8 0;repair 32 0");
        talk.send();
        talk.ticks(2);
        talk.wake(1, true);
        talk.wake(2, true);
        talk.send();
        talk.ticks(9);
        talk.wake(2, false);
        talk.ticks(1);
        Check.dueAll("asked at 11", timers(talk, 1, 0), 27, 1, 19, 1, 1, -1, -1, 0);
        talk.wake(2, true);
        Check.tell(talk, "request 0 0");
        return talk;
    }

    private static void ignoreEnds() {
        RepairTalk talk = twoAskers();
        talk.ticks(7);
        Check.dueAll("heard at 14 to 18", timers(talk, 1, 0), 27, 1, 19, 1, 6, -1, -1, 0);
        Check.due("SUPPRESSED", talk.node(1, 10), 0);
        talk.ticks(1);
        Check.dueAll("heard at 19", timers(talk, 1, 0), 20, 2, 19, 1, 7, -1, -1, 0);
        Check.due("SUPPRESSED", talk.node(1, 10), 1);
    }

    private static void mostBackByHearing() {
        RepairTalk talk = twoAskers();
        talk.ticks(11);
        Check.due("by 22", talk.timer(1, 0, 1), 5);
        talk.ticks(1);
        Check.dueAll("by 23", timers(talk, 1, 0), 24, 5, 23, 1, 11, -1, -1, 0);
        Check.due("SUPPRESSED", talk.node(1, 10), 5);
    }

    private static void halfOfOne() {
        RepairTalk talk = missed("0 0", "32 0");
        talk.ticks(1);
        Check.due("ASK", talk.timer(1, 0, 0), 5);
        Check.due("IGNORE, by half of 1", talk.timer(1, 0, 2), 4);
        RepairTalk two = missed("1 0", "32 0");
        two.ticks(1);
        Check.due("ASK", two.timer(1, 0, 0), 6);
        Check.due("IGNORE, by half of 2", two.timer(1, 0, 2), 5);
    }

    private static void askIsDue() {
        RepairTalk talk = missed("4 0", "4 0");
        talk.ticks(3);
        Check.due("ahead of 7", talk.node(1, 7), 0);
        talk.ticks(1);
        Check.due("at 7", talk.node(1, 7), 1);
        RepairTalk late = missed("4 0", "4 0");
        late.wake(1, false);
        late.ticks(20);
        Check.due("none while it is down", late.node(1, 7), 0);
        late.wake(1, true);
        Check.due("its ASK is over", late.timer(1, 0, 0), 7);
        late.ticks(1);
        Check.due("asked at 24", late.node(1, 7), 1);
        Check.due("ASK anew", late.timer(1, 0, 0), 24 + 8);
    }

    private static void answerIsDue() {
        RepairTalk talk = missed("4 0", "4 0");
        talk.ticks(8);
        Check.due("ANSWER", talk.timer(0, 0, 5), 12);
        Check.due("ahead of 12", talk.node(0, 8), 0);
        talk.ticks(1);
        Check.due("at 12", talk.node(0, 8), 1);
        RepairTalk late = missed("4 0", "4 0");
        late.ticks(5);
        late.wake(0, false);
        late.ticks(11);
        Check.due("none while it is down", late.node(0, 8), 0);
        late.wake(0, true);
        late.ticks(1);
        Check.due("at 20", late.node(0, 8), 1);
        Check.due("HOLD", late.timer(0, 0, 7), 20 + 12);
    }

    private static void answerStays() {
        RepairTalk talk = missed("0 0", "32 0");
        talk.ticks(2);
        Check.due("by the first request at 5", talk.timer(0, 0, 5), 37);
        talk.ticks(10);
        Check.due("by others", talk.timer(0, 0, 5), 37);
    }

    /** The repair of TICK 8 is lost, and node 1 asks on and on: from 20 on (8 and 3 times 4) it is answered again. */
    private static void holdEnds() {
        RepairTalk talk = missed("0 0", "3 0");
        talk.ticks(4);
        Check.due("ANSWER", talk.timer(0, 0, 5), 8);
        talk.loss(0, 100);
        talk.ticks(1);
        talk.loss(0, 0);
        Check.due("HOLD", talk.timer(0, 0, 7), 20);
        talk.ticks(11);
        Check.due("asked at 19", talk.timer(0, 0, 5), -1);
        talk.ticks(1);
        Check.due("asked at 20", talk.timer(0, 0, 5), 23);
    }

    private static void timerOfNone() {
        RepairTalk talk = Check.group("node;node");
        for (int number : new int[] {2, -1, Integer.MIN_VALUE, Integer.MAX_VALUE}) {
            Check.dueIndex("timer(" + number + ", 0, 0)", () -> talk.timer(number, 0, 0));
            Check.dueIndex("timer(" + number + ", 12, 8)", () -> talk.timer(number, 12, 8));
        }
        for (int number : new int[] {12, -1, Integer.MIN_VALUE, Integer.MAX_VALUE}) {
            Check.dueIndex("timer(0, " + number + ", 0)", () -> talk.timer(0, number, 0));
            Check.dueIndex("timer(0, " + number + ", 8)", () -> talk.timer(0, number, 8));
        }
        Check.due("a packet that was not sent", talk.timer(1, 11, 0), -1);
    }

    private static void noSuchTimer() {
        RepairTalk talk = Check.group("node");
        for (int what : new int[] {8, -1, Integer.MIN_VALUE, Integer.MAX_VALUE}) {
            Check.dueElement("timer(0, 0, " + what + ")", () -> talk.timer(0, 0, what));
        }
    }

    // Promise 9

    private static long[] gaps(RepairTalk talk, int node, int packet) {
        long[] all = new long[6];
        for (int k = 0; k < all.length; k++) {
            all[k] = talk.gap(node, packet, k);
        }
        return all;
    }

    private static final String LINE = "node;node;node;node;node;node;link 0 1 delay 9 loss 0;link 1 2 delay 9 loss 0;"
        + "link 2 3 delay 9 loss 0;link 3 4 delay 9 loss 0;link 4 5 delay 9 loss 0";

    private static void noGap() {
        RepairTalk talk = Check.group(TWO);
        Check.dueAll("at first", gaps(talk, 1, 11), -1, -1, -1, -1, -1, -1);
        talk.send();
        Check.dueAll("of the sender", gaps(talk, 0, 0), -1, -1, -1, -1, -1, -1);
        Check.dueAll("of another packet", gaps(talk, 1, 1), -1, -1, -1, -1, -1, -1);
    }

    private static void gapWithoutWay() {
        RepairTalk talk = Check.group(LINE);
        talk.cut(1, true);
        talk.send();
        Check.dueAll("with a way", gaps(talk, 1, 0), -1, -1, -1, -1, -1, -1);
        for (int node = 2; node < 6; node++) {
            Check.dueAll("of " + node, gaps(talk, node, 0), 2, -1, -1, -1, -1, -1);
        }
        RepairTalk alone = Check.group("node;node");
        alone.send();
        Check.due("of one without any link", alone.gap(1, 0, 0), 2);
        RepairTalk last = Check.group("node;node;source 1");
        last.send();
        Check.due("of node 0", last.gap(0, 0, 0), 2);
        Check.due("of the sender", last.gap(1, 0, 0), -1);
    }

    private static void gapBehindGap() {
        RepairTalk talk = Check.group(LINE);
        talk.loss(0, 100);
        talk.send();
        Check.dueAll("of 1", gaps(talk, 1, 0), 0, -1, -1, -1, -1, -1);
        Check.dueAll("of 2", gaps(talk, 2, 0), 1, 0, -1, -1, -1, -1);
        Check.dueAll("of 5", gaps(talk, 5, 0), 1, 1, 1, 1, 0, -1);
        // Other causes of those ahead of it are no cause of this loss.
        talk.give(1, 0, true);
        talk.give(3, 0, true);
        talk.give(3, 0, false);
        Check.dueAll("of 3, taken from it", gaps(talk, 3, 0), 5, -1, -1, -1, -1, -1);
        Check.dueAll("of 5 still", gaps(talk, 5, 0), 1, 1, 1, 1, 0, -1);
        // The next packet is lost farther on.
        talk.loss(0, 0);
        talk.loss(3, 100);
        talk.send();
        Check.dueAll("of 3", gaps(talk, 3, 1), -1, -1, -1, -1, -1, -1);
        Check.dueAll("of 4", gaps(talk, 4, 1), 0, -1, -1, -1, -1, -1);
        Check.dueAll("of 5", gaps(talk, 5, 1), 1, 0, -1, -1, -1, -1);
    }

    private static void gapByLoss() {
        for (int loss = 38; loss <= 39; loss++) {
            RepairTalk talk = Check.group("node;node;link 0 1 delay 1 loss " + loss);
            talk.send();
            Check.due("by 16838 modulo 100 and a LOSS of " + loss, talk.gap(1, 0, 0), loss == 38 ? -1 : 0);
        }
    }

    /** Two TICKS of reports are 60 messages: data to 1 to 4 makes 64, the one to 5 and all of the next are too many. */
    private static void gapByCrowd() {
        RepairTalk talk = Check.group(LINE + ";session 1");
        talk.ticks(2);
        talk.send();
        Check.due("messages", talk.count(12), 64);
        Check.due("the 64th", talk.gap(4, 0, 0), -1);
        Check.dueAll("one more", gaps(talk, 5, 0), 3, -1, -1, -1, -1, -1);
        talk.send();
        for (int node = 1; node < 6; node++) {
            Check.dueAll("of " + node + ", as the one ahead of it counts as reached", gaps(talk, node, 1),
                3, -1, -1, -1, -1, -1);
        }
    }

    private static void gapOnItsWay() {
        RepairTalk talk = Check.group(LINE);
        talk.send();
        for (int node = 0; node < 6; node++) {
            Check.due("of " + node, talk.gap(node, 0, 0), -1);
        }
    }

    /** Requests, repairs and reports that are lost leave no GAP. */
    private static void gapByDataAlone() {
        RepairTalk talk = missed("4 0", "1 0");
        Check.due("by data", talk.gap(1, 0, 0), 4);
        talk.loss(0, 100);
        talk.give(0, 1, false);
        talk.ticks(20);
        Check.due("of the source by lost requests", talk.gap(0, 0, 0), -1);
        Check.due("taken from the source", talk.gap(0, 1, 0), 5);
        RepairTalk repair = missed("4 0", "1 0");
        repair.ticks(5);
        repair.loss(0, 100);
        repair.ticks(2);
        Check.due("a repair was lost", repair.node(0, 8), 1);
        Check.due("by data still", repair.gap(1, 0, 0), 4);
        RepairTalk report = Check.group("node;node;link 0 1 delay 1 loss 100;session 1");
        report.ticks(4);
        Check.due("by reports", report.gap(1, 0, 0), -1);
    }

    /** A NODE that was not there when the data was sent has none, however full the group gets. */
    private static void noGapOfLaterNodes() {
        RepairTalk talk = Check.group("node");
        for (int nodes = 2; nodes <= 6; nodes++) {
            talk.send();
            Check.tell(talk, "node");
            for (int packet = 0; packet < talk.count(4); packet++) {
                Check.due("of node " + (nodes - 1), talk.gap(nodes - 1, packet, 0), -1);
            }
        }
        Check.tell(talk, "source 5");
        talk.send();
        for (int node = 0; node < 6; node++) {
            Check.due("of node " + node + " by the last one's data", talk.gap(node, 5, 0), node < 5 ? 2 : -1);
        }
        Check.due("ALONE", talk.count(16), 6);
    }

    private static void gapEnds() {
        RepairTalk talk = missed("4 0", "1 0");
        talk.ticks(6);
        Check.due("ahead of the repair", talk.gap(1, 0, 0), 4);
        talk.ticks(1);
        Check.due("by the repair", talk.gap(1, 0, 0), -1);
        // Taken while its data is on its way.
        RepairTalk data = Check.group(TWO);
        data.send();
        data.give(1, 0, true);
        data.give(1, 0, false);
        Check.due("taken", data.gap(1, 0, 0), 5);
        data.ticks(2);
        Check.due("by data", data.gap(1, 0, 0), -1);
    }

    private static void gapOfDown() {
        RepairTalk talk = Check.group(TWO_DOWN);
        talk.send();
        Check.due("on its way", talk.gap(1, 0, 0), -1);
        talk.ticks(1);
        Check.due("on its way", talk.gap(1, 0, 0), -1);
        talk.ticks(1);
        Check.due("came while it is down", talk.gap(1, 0, 0), 4);
        talk.send();
        talk.give(1, 1, true);
        talk.ticks(2);
        Check.due("of one that it has", talk.gap(1, 1, 0), -1);
        talk.send();
        talk.give(1, 2, true);
        talk.give(1, 2, false);
        talk.ticks(2);
        Check.due("of one that was taken", talk.gap(1, 2, 0), 4);
        // A repair that comes while it is down is no data.
        RepairTalk repair = missed("4 0", "1 0");
        repair.give(1, 0, true);
        repair.give(1, 0, false);
        repair.send();
        repair.ticks(2);
        repair.ticks(repair.timer(1, 0, 0) + 3 - repair.count(14));
        Check.due("a repair on its way", repair.flight(0, 3), 2);
        repair.wake(1, false);
        repair.ticks(1);
        Check.due("it came", repair.count(12), 0);
        Check.due("of a repair", repair.gap(1, 0, 0), 5);
    }

    private static void gapOfNoSuchK() {
        RepairTalk talk = Check.group(LINE);
        talk.loss(0, 100);
        talk.send();
        Check.due("the last", talk.gap(5, 0, 4), 0);
        for (int k : new int[] {5, 6, Integer.MAX_VALUE, -1, Integer.MIN_VALUE}) {
            Check.due("gap(5, 0, " + k + ")", talk.gap(5, 0, k), -1);
            Check.due("gap(0, 0, " + k + ")", talk.gap(0, 0, k), -1);
        }
        Check.due("behind a 0", talk.gap(1, 0, 1), -1);
    }

    private static void gapOfNone() {
        RepairTalk talk = Check.group("node;node");
        for (int node : new int[] {2, -1, Integer.MIN_VALUE, Integer.MAX_VALUE}) {
            Check.dueIndex("gap(" + node + ", 0, 0)", () -> talk.gap(node, 0, 0));
        }
        for (int packet : new int[] {12, -1, Integer.MIN_VALUE, Integer.MAX_VALUE}) {
            Check.dueIndex("gap(0, " + packet + ", 0)", () -> talk.gap(0, packet, 0));
        }
        Check.due("a packet that was not sent", talk.gap(1, 11, 0), -1);
    }
}

/** Boundaries at which numbers are unlike that are often the same: ASKED and REQS, EST as learnt and at first .. */
final class UnlikeEdges {
    private static final String LINE = "node;node;node;link 0 1 delay 1 loss 0;link 1 2 delay 1 loss 0";
    private static final String STAR = "node;node;node;node;link 1 0 delay 1 loss 0;link 1 2 delay 1 loss 0;"
        + "link 1 3 delay 1 loss 0";

    private UnlikeEdges() {
    }

    static void all() {
        Check.edge(6, "AVE is (16 times REQS, less AVE) by 4 more", UnlikeEdges::aveByRequestsOfOthers);
        Check.edge(8, "HOLD is TICK and 3 times EST of the one that is answered", UnlikeEdges::holdByLearntEst);
        Check.edge(8, "by a repair HOLD is TICK and 3 times EST of the sender", UnlikeEdges::holdByLearntEst);
        Check.edge(8, "ANSWER is TIME by D1, D2 and EST of the sender, to that one", UnlikeEdges::answersTheSender);
        Check.edge(9, "with the GAP of that one behind it", UnlikeEdges::gapBehindByNodes);
        Check.edge(10, "CUT or not (not at first)", UnlikeEdges::linkBesideCutOnes);
        Check.edge(11, "with SCOPE and ASKED, together (5 at most)", UnlikeEdges::scopeByAskedAlone);
        Check.edge(17, "ANSWER, FROM, WHEN none, GAP 5; HEARD stays", UnlikeEdges::takenFarFromTheFirst);
        Check.edge(25, "how many requests, or repairs, are sent AHEAD N", UnlikeEdges::talkAheadAlone);
        Check.edge(30, "LINKS from each NODE of its TREE", UnlikeEdges::crossedInParts);
        Check.edge(34, "none, if it is one of these itself", UnlikeEdges::noGuardsOfOneOfMany);
        Check.edge(35, "by which TALK of N would be the fewest requests", UnlikeEdges::bestBesideManyRepairs);
        Check.edge(41, "THE IMAGE (one) of all may be kept, and gone back to", UnlikeEdges::scopeOfAnAnswerStays);
        Check.edge(41, "One goes back to THE IMAGE", UnlikeEdges::backToFewer);
    }

    /** TICK is 6: 1 and 2, down for packet 0, heard of it at 4 and 5, and ask (C1 being 4) at 8 and 9. */
    private static RepairTalk bothMissed(String more) {
        RepairTalk talk = Check.group(LINE + ";request 4 0;" + more);
        talk.wake(1, false);
        talk.wake(2, false);
        talk.send();
        talk.ticks(3);
        talk.wake(1, true);
        talk.wake(2, true);
        talk.send();
        talk.ticks(3);
        Check.due("ASK of 1", talk.timer(1, 0, 0), 8);
        Check.due("ASK of 2", talk.timer(2, 0, 0), 9);
        return talk;
    }

    /** The request of 1 is there at 9, ahead of that of 2: so 2 asks nobody, and has it at 12. */
    private static void aveByRequestsOfOthers() {
        RepairTalk talk = bothMissed("repair 1 0");
        talk.ticks(6);
        Check.dueAll("ASKED, REQS of 2", new long[] {talk.timer(2, 0, 3), talk.timer(2, 0, 4)}, 0, 1);
        Check.due("got", talk.ticks(1), 1);
        Check.due("REQUESTS of 2", talk.node(2, 7), 0);
        Check.due("AVE of 2, by REQS of 1", talk.node(2, 6), 16);
        Check.due("AVE of 1, by REQS of 1", talk.node(1, 6), 16);
    }

    /** 2 heard a request of 1, and the source is down: its own one, later, goes no farther than a first one. */
    private static void scopeByAskedAlone() {
        RepairTalk talk = bothMissed("scope 1");
        talk.wake(0, false);
        talk.ticks(4);
        talk.wake(1, false);
        Check.dueAll("ASK, ASKED, REQS of 2", new long[] {talk.timer(2, 0, 0), talk.timer(2, 0, 3),
            talk.timer(2, 0, 4)}, 17, 0, 1);
        talk.ticks(8);
        Check.due("messages, by scope 1", talk.count(12), 1);
        Check.dueAll("ASK, ASKED, REQS of 2", new long[] {talk.timer(2, 0, 0), talk.timer(2, 0, 3),
            talk.timer(2, 0, 4)}, 33, 1, 2);
        talk.ticks(16);
        Check.due("TICK", talk.count(14), 34);
        Check.due("messages, by scope 2", talk.count(12), 2);
    }

    /** Reports have told that 9 is the way, so HOLD is 27 behind, not the 12 of an EST of 4. */
    private static void holdByLearntEst() {
        RepairTalk talk = Check.group("node;node;link 0 1 delay 9 loss 0;session 1;request 0 0;repair 0 0");
        talk.ticks(40);
        Check.tell(talk, "session 0");
        talk.send();
        talk.ticks(20);
        Check.dueAll("EST", new long[] {talk.est(0, 1), talk.est(1, 0)}, 9, 9);
        talk.give(1, 0, false);
        talk.send();
        talk.ticks(11);
        Check.due("TICK", talk.count(14), 71);
        // Packet 1 is there at 69; requests are sent at 70 and, BACK going up, at 71; the first is there at 79.
        talk.ticks(10);
        Check.due("REPAIRS", talk.node(0, 8), 1);
        Check.due("HOLD of the one that answered at 80", talk.timer(0, 0, 7), 80 + 27);
        talk.ticks(9);
        Check.due("WHEN", talk.when(1, 0), 89);
        Check.due("HOLD by the repair at 89", talk.timer(1, 0, 7), 89 + 27);
    }

    /** Only 1 is asked; what was on its way ahead of that came from 0. */
    private static void answersTheSender() {
        RepairTalk talk = Check.group(LINE + ";scope 1;request 4 0;repair 8 0");
        talk.wake(2, false);
        talk.send();
        talk.ticks(3);
        talk.wake(2, true);
        talk.send();
        talk.ticks(3);
        Check.due("ASK of 2", talk.timer(2, 0, 0), 9);
        talk.ticks(5);
        Check.dueAll("ANSWER of 1, to whom", new long[] {talk.timer(1, 0, 5), talk.timer(1, 0, 6)}, 18, 2);
        Check.due("ANSWER of 0", talk.timer(0, 0, 5), -1);
    }

    /** The LINKS are told from the far end on, so that no LINK has the number of the NODE ABOVE. */
    private static void gapBehindByNodes() {
        RepairTalk talk = Check.group("node;node;node;node;link 2 3 delay 1 loss 0;link 1 2 delay 1 loss 0;"
            + "link 0 1 delay 1 loss 100");
        talk.send();
        long[] gaps = new long[4];
        for (int k = 0; k < gaps.length; k++) {
            gaps[k] = talk.gap(3, 0, k);
        }
        Check.dueAll("GAPS of 3", gaps, 1, 1, 0, -1);
        Check.dueAll("GAPS of 2", new long[] {talk.gap(2, 0, 0), talk.gap(2, 0, 1), talk.gap(2, 0, 2)}, 1, 0, -1);
    }

    private static void linkBesideCutOnes() {
        RepairTalk talk = Check.group("node;node;node;node;node;link 0 1 delay 1 loss 0;link 1 2 delay 1 loss 0;"
            + "link 2 3 delay 1 loss 0;link 3 4 delay 1 loss 0");
        for (int link = 0; link < 4; link++) {
            talk.cut(link, true);
        }
        Check.due("a text", Check.tell(talk, "link 4 0 delay 3 loss 7"), 2);
        Check.due("LINKS", talk.count(1), 5);
        Check.dueAll("the fifth", new long[] {talk.link(4, 0), talk.link(4, 1), talk.link(4, 2), talk.link(4, 3),
            talk.link(4, 4), talk.link(4, 5)}, 4, 0, 3, 7, 0, 0);
        Check.due("its WAY", talk.way(0, 4, false), 3);
        Check.due("no WAY by the others", talk.way(0, 1, false), -1);
        for (int link = 0; link < 4; link++) {
            Check.due("CUT still", talk.link(link, 4), 1);
        }
    }

    /** 1 is the source, and answers of packet 1. */
    private static void takenFarFromTheFirst() {
        RepairTalk talk = Check.group("node;node;link 0 1 delay 1 loss 0;source 1;request 4 0;repair 8 0");
        talk.send();
        talk.ticks(2);
        talk.wake(0, false);
        talk.send();
        talk.ticks(2);
        talk.wake(0, true);
        talk.send();
        talk.ticks(7);
        Check.dueAll("ANSWER, to whom", new long[] {talk.timer(1, 1, 5), talk.timer(1, 1, 6)}, 18, 0);
        Check.due("take another", talk.give(1, 0, false), true);
        Check.due("ANSWER stays", talk.timer(1, 1, 5), 18);
        Check.due("take", talk.give(1, 1, false), true);
        Check.dueAll("ANSWER, to whom", new long[] {talk.timer(1, 1, 5), talk.timer(1, 1, 6)}, -1, -1);
        talk.ticks(10);
        Check.due("REPAIRS", talk.node(1, 8), 0);
    }

    /** A request was sent at 7, the next one is at 15, the answer to the first at 16. */
    private static void talkAheadAlone() {
        RepairTalk talk = MemberEdges.missed("4 0", "8 0");
        talk.ticks(5);
        Check.dueAll("REQUESTS, REPAIRS by now", new long[] {talk.node(1, 7), talk.node(0, 8)}, 1, 0);
        for (boolean late : new boolean[] {false, true}) {
            long[] requests = new long[4];
            long[] repairs = new long[4];
            int[] ahead = {6, 7, 8, 120};
            for (int i = 0; i < ahead.length; i++) {
                requests[i] = talk.talk(ahead[i], late, false);
                repairs[i] = talk.talk(ahead[i], late, true);
            }
            Check.dueAll("requests AHEAD 6, 7, 8, 120", requests, 0, 1, 1, 1);
            Check.dueAll("repairs AHEAD 6, 7, 8, 120", repairs, 0, 0, 1, 1);
        }
    }

    private static void crossedInParts() {
        RepairTalk talk = Check.group("node;node;node;node;link 3 2 delay 1 loss 0;link 1 2 delay 1 loss 0");
        Check.due("of one alone", talk.crossed(0, 5), 0);
        Check.due("of the larger part", talk.crossed(1, 5), 3);
        Check.due("of it by 1", talk.crossed(1, 1), 2);
        Check.due("of its middle", talk.crossed(2, 1), 3);
    }

    private static void noGuardsOfOneOfMany() {
        RepairTalk talk = Check.group(STAR);
        talk.send();
        talk.ticks(4);
        Check.due("all have it", talk.holders(0), 15);
        for (int node = 0; node < 4; node++) {
            Check.due("of " + node, talk.guard(node, 0), -1);
        }
        talk.give(1, 0, false);
        Check.due("of the only one that has it not", talk.guard(1, 0), 7);
    }

    /** All three answer the one request of 1 at once; how many answered by now must not count among requests ahead. */
    private static void bestBesideManyRepairs() {
        RepairTalk talk = Check.group(STAR + ";request 4 0;repair 0 0");
        talk.send();
        talk.ticks(4);
        talk.give(1, 0, false);
        talk.send();
        talk.ticks(10);
        Check.dueAll("REQUESTS, REPAIRS", new long[] {talk.node(1, 7), talk.node(0, 8), talk.node(2, 8),
            talk.node(3, 8)}, 1, 1, 1, 1);
        // By packet 2 it asks anew, at 18; all rest until 25, so then 9 is the least C1 by which the next is behind 35.
        talk.give(1, 0, false);
        talk.send();
        talk.ticks(2);
        Check.dueAll("TICK, ASK", new long[] {talk.count(14), talk.timer(1, 0, 0)}, 16, 18);
        Check.dueAll("HOLDS", new long[] {talk.timer(0, 0, 7), talk.timer(2, 0, 7), talk.timer(3, 0, 7)}, 25, 25, 25);
        int least = talk.best(20, false);
        Check.due("the least", least, 9);
        for (int c1 = 0; c1 <= 32; c1++) {
            int requests = requestsBy(talk, c1);
            int fewest = requestsBy(talk, least);
            Check.due("by " + c1 + " no fewer", c1 < least ? requests > fewest : requests >= fewest, true);
        }
    }

    /** As the answer to each change of C1 by a text would be, if nothing else came of it. */
    private static int requestsBy(RepairTalk talk, int c1) {
        talk.image();
        Check.tell(talk, "request " + c1 + " 0");
        int requests = talk.talk(20, false, false);
        talk.back();
        return requests;
    }

    /** TICK is 10: 0 and 2 heard the request of 1, by scope 1, and answer at 18; neither's repair goes beyond 1. */
    private static RepairTalk answersByScope1() {
        RepairTalk talk = Check.group(LINE + ";scope 1;request 4 0;repair 8 0");
        talk.send();
        talk.ticks(3);
        talk.give(1, 0, false);
        talk.send();
        talk.ticks(7);
        Check.dueAll("ANSWERS of 0 and 2", new long[] {talk.timer(0, 0, 5), talk.timer(2, 0, 5)}, 17, 17);
        return talk;
    }

    private static void dueRepairsOfScope1(String what, RepairTalk talk) {
        talk.ticks(8);
        Check.dueAll(what + ", messages of repairs", new long[] {talk.count(12), talk.flight(0, 1), talk.flight(0, 3),
            talk.flight(1, 1), talk.flight(1, 3)}, 2, 1, 2, 1, 2);
    }

    private static void scopeOfAnAnswerStays() {
        dueRepairsOfScope1("as it is", answersByScope1());
        RepairTalk kept = answersByScope1();
        kept.image();
        kept.ticks(30);
        Check.due("back", kept.back(), true);
        dueRepairsOfScope1("back", kept);
        RepairTalk told = answersByScope1();
        Check.tell(told, "scope 5;repair 0 0");
        dueRepairsOfScope1("behind a text", told);
    }

    private static void backToFewer() {
        RepairTalk talk = Check.group("node");
        talk.image();
        Check.tell(talk, "node;link 0 1 delay 1 loss 0");
        talk.send();
        talk.ticks(2);
        Check.due("back", talk.back(), true);
        Check.dueIndex("node(1, 0)", () -> talk.node(1, 0));
        Check.dueIndex("link(0, 0)", () -> talk.link(0, 0));
        Check.dueIndex("wake(1, false)", () -> talk.wake(1, false) ? 1 : 0);
        Check.dueIndex("cut(0, true)", () -> talk.cut(0, true) ? 1 : 0);
        Check.due("first", talk.first(0), -1);
        Check.due("holders", talk.holders(0), 0);
    }
}

/** The boundaries of promises 38 to 42: the log, the seed, the image and the counts. */
final class KeepEdges {
    private static final int[] FAR_OFF = {-1, Integer.MIN_VALUE, Integer.MAX_VALUE};
    private static final String TWO = "node;node;link 0 1 delay 1 loss 0";

    private KeepEdges() {
    }

    static void all() {
        Check.edge(12, "An object is used for at most 512 calls", KeepEdges::used512Times);
        Check.edge(42, "NODES (at most 6, numbered from 0 on)", KeepEdges::fullGroup);
        Check.edge(38, "the latest 60 of", KeepEdges::mostRows);
        Check.edge(38, "THE LOG so many ago (0 the latest)", KeepEdges::rowsByAge);
        Check.edge(38, "NONE without", KeepEdges::noRow);
        Check.edge(38, "a NODE got a PACKET that it had not by a MESSAGE (3)", KeepEdges::noRowByHand);
        Check.edge(38, "NoSuchElementException: another what.", KeepEdges::noSuchThingOfARow);
        Check.edge(39, "SEED 1 at first", () -> Check.due("SEED", new RepairTalk().seed(0), 1));
        Check.edge(39, "as an int that goes round", KeepEdges::seedGoesRound);
        Check.edge(39, "bits 16 to 30", KeepEdges::bitsOfTheSeed);
        Check.edge(39, "SEED: what it was.", KeepEdges::seedAsItWas);
        Check.edge(40, "THE IMAGE (one) of all may be kept", KeepEdges::latestImage);
        Check.edge(40, "THE IMAGE is kept.", KeepEdges::imageOfNothing);
        Check.edge(41, "false, and nothing happens, if none was kept", KeepEdges::backWithout);
        Check.edge(41, "One goes back to THE IMAGE: true", KeepEdges::backToAll);
        Check.edge(41, "THE IMAGE (one) of all may be kept, and gone back to", KeepEdges::backToACrowd);
        Check.edge(41, "(but for the TAPE, fault() and THE IMAGE itself)", KeepEdges::backKeeps);
        Check.edge(42, "NONE for another what.", KeepEdges::noSuchCount);
        Check.edge(42, "12 MESSAGES on their way, 13 CROWD, 14 TICK, 15 rows of THE LOG, 16 ALONE",
            KeepEdges::lastCounts);
        Check.edge(42, "8 C1, 9 C2, 10 D1, 11 D2 (as told)", KeepEdges::asTold);
    }

    /** 512 calls, most of them of 60 TICKS in which all talk: what grows without a bound still holds. */
    private static void used512Times() {
        RepairTalk talk = new RepairTalk();
        int[] n = Check.numbers("node;node;link 0 1 delay 9 loss 50;session 1;rate 20;request 0 0");
        int calls = 0;
        for (int i = 0; i < n.length; i += 5) {
            talk.feed(n[i], n[i + 1], n[i + 2], n[i + 3], n[i + 4]);
            calls++;
        }
        Check.due("end", talk.end(64), true);
        Check.due("group", talk.group(), 1);
        for (calls += 2; calls < 509; calls++) {
            talk.ticks(60);
        }
        Check.due("TICK", talk.count(14), 503 * 60);
        Check.due("LOAD", talk.link(0, 5), 9999);
        Check.due("whole", talk.whole(true), 0);
    }

    /** All that there can be at most, and all that can be asked of it: nothing of the machine is thrown. */
    private static void fullGroup() {
        RepairTalk talk = Check.group("node;node;node;node;node;node;rate 1;request 32 0");
        Check.tell(talk, "link 0 1 delay 9 loss 0;link 0 2 delay 9 loss 0;link 0 3 delay 9 loss 0;"
            + "link 0 4 delay 9 loss 0;link 1 2 delay 9 loss 0;link 1 3 delay 9 loss 0;link 1 4 delay 9 loss 0;"
            + "link 2 3 delay 9 loss 0;link 2 4 delay 9 loss 0;link 4 5 delay 9 loss 0");
        talk.ticks(60);
        talk.give(5, 0, false);
        talk.give(5, 11, false);
        Check.tell(talk, "session 1");
        talk.ticks(3);
        Check.dueAll("NODES, LINKS, PACKETS, MESSAGES, rows", new long[] {talk.count(0), talk.count(1), talk.count(4),
            talk.count(12), talk.count(15)}, 6, 10, 12, 64, 60);
        Check.tell(talk, "session 0");
        Twins.dueAlike("asked twice", talk, talk);
        // A report of TICK 60 is at 5 by 69.
        talk.ticks(7);
        Check.due("FIRST", talk.first(11), 5);
        Check.due("ASK of the last PACKET of the last NODE", talk.timer(5, 11, 0), 69 + 32);
        Check.due("whole, early", talk.whole(false) > 0, true);
        Check.due("talk, late", talk.talk(120, true, false), 2);
        Check.due("best", talk.best(20, true), 0);
        Twins.dueAlike("asked twice", talk, talk);
    }

    // Promise 38

    private static void mostRows() {
        RepairTalk talk = Check.group("node;node;node;node;node;node;link 0 1 delay 1 loss 0;link 0 2 delay 1 loss 0;"
            + "link 0 3 delay 1 loss 0;link 0 4 delay 1 loss 0;link 0 5 delay 1 loss 0");
        Check.due("none", talk.count(15), 0);
        for (int i = 1; i <= 10; i++) {
            talk.send();
            talk.ticks(2);
            Check.due("rows by " + i, talk.count(15), 6 * i);
        }
        Check.due("the oldest", talk.log(59, 2), 0);
        Check.due("its packet", talk.log(59, 3), 0);
        talk.send();
        Check.due("60 at most", talk.count(15), 60);
        Check.dueAll("the oldest is the one behind", row(talk, 59), 1, 1, 3, 0);
        Check.dueAll("the latest", row(talk, 0), 20, 0, 0, 10);
        Check.dueAll("none behind", row(talk, 60), -1, -1, -1, -1);
        talk.ticks(2);
        Check.due("60 at most", talk.count(15), 60);
        Check.dueAll("the oldest is of packet 1", row(talk, 59), 2, 0, 0, 1);
        Check.dueAll("the latest", row(talk, 0), 21, 5, 3, 10);
    }

    private static long[] row(RepairTalk talk, int ago) {
        return new long[] {talk.log(ago, 0), talk.log(ago, 1), talk.log(ago, 2), talk.log(ago, 3)};
    }

    private static void rowsByAge() {
        RepairTalk talk = MemberEdges.missed("4 0", "1 0");
        talk.ticks(7);
        long[][] rows = {{10, 1, 3, 0}, {9, 0, 2, 0}, {7, 1, 1, 0}, {3, 1, 3, 1}, {2, 0, 0, 1}, {0, 0, 0, 0}};
        Check.due("rows", talk.count(15), rows.length);
        for (int ago = 0; ago < rows.length; ago++) {
            Check.dueAll("row " + ago, row(talk, ago), rows[ago]);
        }
    }

    private static void noRow() {
        RepairTalk talk = Check.group(TWO);
        Check.dueAll("none yet", row(talk, 0), -1, -1, -1, -1);
        talk.send();
        Check.dueAll("one", row(talk, 0), 0, 0, 0, 0);
        for (int ago : new int[] {1, 59, 60, -1, Integer.MIN_VALUE, Integer.MAX_VALUE}) {
            Check.dueAll("row " + ago, row(talk, ago), -1, -1, -1, -1);
        }
    }

    private static void noRowByHand() {
        RepairTalk talk = Check.group(TWO + ";session 1");
        talk.send();
        talk.give(1, 0, true);
        talk.wake(0, false);
        talk.wake(0, true);
        talk.ticks(5);
        Check.due("rows: sent, and neither given nor had already", talk.count(15), 1);
        RepairTalk duplicate = MemberEdges.missed("4 0", "1 0");
        duplicate.ticks(6);
        duplicate.give(1, 0, true);
        duplicate.ticks(1);
        Check.due("DUPLICATES", duplicate.node(1, 9), 1);
        Check.dueAll("the repair is the latest", row(duplicate, 0), 9, 0, 2, 0);
    }

    private static void noSuchThingOfARow() {
        RepairTalk talk = Check.group(TWO);
        Check.dueElement("log(0, 4) of none", () -> talk.log(0, 4));
        talk.send();
        for (int what : new int[] {4, -1, Integer.MIN_VALUE, Integer.MAX_VALUE}) {
            Check.dueElement("log(0, " + what + ")", () -> talk.log(0, what));
            Check.dueElement("log(-1, " + what + ")", () -> talk.log(-1, what));
            Check.dueElement("log(60, " + what + ")", () -> talk.log(60, what));
        }
    }

    // Promise 39

    /** Each SEED with the one that a draw makes of it. */
    private static void seedGoesRound() {
        int[][] seeds = {{1, 1103527590}, {1103527590, -1770082073}, {0, 12345}, {-1, -1103502900},
            {Integer.MAX_VALUE, 1043980748}, {Integer.MIN_VALUE, -2147471303}, {3, -984409216}};
        for (int[] seed : seeds) {
            RepairTalk talk = Check.group(TWO);
            talk.seed(seed[0]);
            talk.send();
            Check.due("SEED behind " + seed[0], talk.seed(0), seed[1]);
        }
    }

    /** By 3 the SEED is below 0: its bits 16 to 30 are 17747, by 7 they are 19564, by -1 15929. */
    private static void bitsOfTheSeed() {
        int[][] draws = {{3, 47}, {7, 64}, {-1, 29}, {1, 38}};
        for (int[] draw : draws) {
            for (int more = 0; more < 2; more++) {
                RepairTalk talk = Check.group("node;node;link 0 1 delay 1 loss " + (draw[1] + more));
                talk.seed(draw[0]);
                talk.send();
                Check.due("messages by " + draw[0] + " and " + (draw[1] + more), talk.count(12), 1 - more);
            }
        }
    }

    private static void seedAsItWas() {
        RepairTalk talk = new RepairTalk();
        int was = 1;
        for (int seed : new int[] {0, -1, Integer.MIN_VALUE, Integer.MAX_VALUE, 7, 7}) {
            Check.due("seed(" + seed + ")", talk.seed(seed), was);
            was = seed;
        }
        talk.ticks(60);
        Check.due("without draws it stays", talk.seed(1), 7);
    }

    // Promises 40 and 41

    private static void latestImage() {
        RepairTalk talk = Check.group(TWO);
        talk.image();
        talk.ticks(3);
        talk.image();
        talk.ticks(5);
        Check.due("back", talk.back(), true);
        Check.due("to the latest", talk.count(14), 3);
        talk.ticks(7);
        talk.send();
        Check.due("back again", talk.back(), true);
        Check.due("to the same", talk.count(14) * 10 + talk.count(4), 30);
    }

    private static void imageOfNothing() {
        RepairTalk talk = new RepairTalk();
        talk.image();
        Check.tell(talk, TWO);
        talk.send();
        talk.ticks(9);
        Check.due("back", talk.back(), true);
        Twins.dueAlike("back", talk, new RepairTalk());
        Check.due("a text", Check.tell(talk, TWO), 1);
        Check.due("send", talk.send(), 0);
        RepairTalk kept = Twins.busy();
        RepairTalk twin = Twins.busy();
        kept.image();
        Twins.dueAlike("an image alone", kept, twin);
        kept.ticks(30);
        twin.ticks(30);
        Twins.dueAlike("an image alone, 30 on", kept, twin);
    }

    private static void backWithout() {
        RepairTalk talk = Check.group(TWO);
        Check.due("back", talk.back(), false);
        talk.send();
        talk.ticks(1);
        Check.tape(talk, "rate 7");
        RepairTalk twin = Check.group(TWO);
        twin.send();
        twin.ticks(1);
        Check.due("back", talk.back(), false);
        Twins.dueAlike("back", talk, twin);
        Check.due("the tape", talk.group(), 2);
        Check.due("as fed", talk.count(7), 7);
        Check.due("back", talk.back(), false);
    }

    /** All that can be changed behind the image is changed. */
    private static void backToAll() {
        RepairTalk talk = Twins.busy();
        talk.image();
        talk.ticks(60);
        Check.tell(talk, "node;link 1 3 delay 1 loss 0;source 1;request 1 1;repair 1 1;scope 1;session 1;rate 1");
        talk.ticks(60);
        for (int node = 0; node < 5; node++) {
            talk.wake(node, node % 2 == 0);
            talk.give(node, node, node % 2 == 1);
        }
        talk.cut(0, true);
        talk.loss(1, 99);
        talk.seed(-7);
        talk.ticks(60);
        Check.due("back", talk.back(), true);
        RepairTalk twin = Twins.busy();
        Twins.dueAlike("back", talk, twin);
        talk.ticks(60);
        twin.ticks(60);
        Twins.dueAlike("60 on", talk, twin);
        // THE IMAGE itself is not changed by what comes behind one's going back.
        talk.give(0, 0, false);
        Check.due("back again", talk.back(), true);
        Twins.dueAlike("back again", talk, Twins.busy());
    }

    /** CROWD of 26 at the image is 56 a TICK on, and 0 in the one ahead of it. */
    private static void backToACrowd() {
        RepairTalk talk = Check.group("node;node;node;node;node;node;link 0 1 delay 9 loss 0;link 1 2 delay 9 loss 0;"
            + "link 2 3 delay 9 loss 0;link 3 4 delay 9 loss 0;link 4 5 delay 9 loss 0;session 1");
        talk.ticks(2);
        talk.image();
        talk.ticks(1);
        Check.due("CROWD", talk.count(13), 26);
        talk.back();
        Check.due("CROWD ahead", talk.count(13), 0);
        talk.ticks(1);
        talk.image();
        talk.ticks(1);
        Check.due("CROWD a TICK on", talk.count(13), 56);
        talk.back();
        Check.due("CROWD back", talk.count(13), 26);
        Check.due("messages", talk.count(12), 64);
    }

    private static void backKeeps() {
        RepairTalk talk = Check.group("node");
        Check.tape(talk, "node;bad");
        talk.image();
        Check.dueArgument("group", talk::group);
        Check.tape(talk, "node;node;rate 5");
        Check.due("back", talk.back(), true);
        Check.due("fault stays", talk.fault(), 5);
        Check.due("texts are as they were", talk.count(2), 1);
        Check.due("the tape stays", talk.end(16), true);
        Check.due("group", talk.group(), 2);
        Check.due("nodes", talk.count(0), 3);
        Check.due("THE IMAGE stays", talk.back(), true);
        Check.due("nodes", talk.count(0), 1);
        Check.due("fault stays", talk.fault(), -1);
        Check.due("the tape stays", talk.end(1), false);
        // Of twelve texts eleven are gone then, and may be told again.
        for (int i = 2; i <= 12; i++) {
            Check.due("text", Check.tell(talk, "rate 1"), i);
        }
        Check.tape(talk, "rate 2");
        Check.dueThrow("the 13th", UnsupportedOperationException.class, talk::group);
        talk.back();
        Check.due("the second again", Check.tell(talk, "rate 3"), 2);
    }

    // Promise 42

    private static void noSuchCount() {
        RepairTalk talk = Check.group(TWO);
        Check.due("count(17)", talk.count(17), -1);
        for (int what : FAR_OFF) {
            Check.due("count(" + what + ")", talk.count(what), -1);
        }
        Check.due("count(16)", talk.count(16), 0);
        Check.due("count(0)", talk.count(0), 2);
    }

    private static void lastCounts() {
        RepairTalk talk = Check.group("node;node;node;link 0 1 delay 9 loss 0;session 1");
        talk.send();
        talk.ticks(5);
        // Node 2 is alone at each TICK.
        Check.dueAll("counts", new long[] {talk.count(12), talk.count(13), talk.count(14), talk.count(15),
            talk.count(16)}, 1 + 10, 0, 5, 1, 5);
        Check.dueAll("and ahead of them", new long[] {talk.count(0), talk.count(1), talk.count(2), talk.count(3),
            talk.count(4), talk.count(5), talk.count(6), talk.count(7)}, 3, 1, 1, 0, 1, 5, 1, 0);
    }

    private static void asTold() {
        RepairTalk talk = Check.group("request 10 11;repair 12 13");
        Check.dueAll("told", new long[] {talk.count(8), talk.count(9), talk.count(10), talk.count(11)}, 10, 11, 12, 13);
        RepairTalk adapted = MemberEdges.missed("2 0", "1 0");
        adapted.ticks(5);
        Check.due("C2 of a node", adapted.node(1, 5), 2);
        Check.due("C1 of a node", adapted.node(1, 4), 1);
        Check.dueAll("told still", new long[] {adapted.count(8), adapted.count(9)}, 2, 0);
    }
}

/** The boundaries of promises 1 to 5: a new object, the tape and the texts of the group. */
final class TextEdges {
    private static final String SIX = "node;node;node;node;node;node";
    private static final int BLANKS = 0x20202020;

    private TextEdges() {
    }

    static void all() {
        Check.edge(1, "A group without NODES.", TextEdges::newObject);
        Check.edge(1, "NEXT: how many PACKETS it sent (0 at first)", () -> newCount(4, 0));
        Check.edge(1, "SOURCE: a NODE (0 at first)", () -> newCount(3, 0));
        Check.edge(1, "SCOPE 1 to 5 (5 at first)", () -> newCount(5, 5));
        Check.edge(1, "PERIOD 0 to 20 (0)", () -> newCount(6, 0));
        Check.edge(1, "RATE 0 to 20 (0)", () -> newCount(7, 0));
        Check.edge(1, "C1, C2 (8, 8)", TextEdges::newRequest);
        Check.edge(1, "D1, D2 (4, 4)", TextEdges::newRepair);
        Check.edge(1, "CROWD, ALONE (0 at first, both)", TextEdges::newCrowd);
        Check.edge(1, "TICK (0 at first)", () -> newCount(14, 0));

        Check.edge(2, "Twenty bytes come behind the TAPE", TextEdges::behindTheTape);
        Check.edge(2, "of each number the highest first", TextEdges::highestFirst);
        Check.edge(2, "how many it has", TextEdges::howManyBytes);
        Check.edge(2, "NONE, and none come, if it would have more than 400", TextEdges::tapeIsFull);

        Check.edge(3, "The TAPE has its first n bytes alone: true", TextEdges::endHolds);
        Check.edge(3, "false, and nothing happens, if it has fewer, or n is below 0", TextEdges::endRefuses);

        Check.edge(4, "Uses the TAPE up", TextEdges::usesTheTapeUp);
        Check.edge(4, "how many texts there are", TextEdges::howManyTexts);
        Check.edge(4, "UnsupportedOperationException: there are 12", TextEdges::twelveTexts);
        Check.edge(4, "Of several exceptions the one told first is thrown", TextEdges::wrongAheadOfTwelve);
        Check.edge(4, "[ LINE { ; LINE } ]", TextEdges::linesAndSemicolons);
        Check.edge(4, "at most 14", TextEdges::fourteenLines);
        Check.edge(4, "NODES (at most 6, numbered from 0 on)", TextEdges::sixNodes);
        Check.edge(4, "LINKS (at most 10, numbered from 0 on)", TextEdges::tenLinks);
        Check.edge(4, "node [ down ]", TextEdges::nodeDown);
        Check.edge(4, "two NODES that there are by then", TextEdges::linkedNodesAreThere);
        Check.edge(4, "unlike ones", TextEdges::linkedNodesAreUnlike);
        Check.edge(4, "without a LINK", TextEdges::linkedAlready);
        Check.edge(4, "else it is wrong at the second", TextEdges::wrongAtTheSecond);
        Check.edge(4, "DELAY 1 to 9", TextEdges::delays);
        Check.edge(4, "LOSS 0 to 100", TextEdges::losses);
        Check.edge(4, "source: a NODE that there is by then", TextEdges::sources);
        Check.edge(4, "request: C1 and C2, of all NODES that there are, too", TextEdges::requestOfAll);
        Check.edge(4, "a new NODE has C1, C2 as told by then", TextEdges::requestOfNew);
        Check.edge(4, "D1, D2 (4, 4), 0 to 32", TextEdges::factors);
        Check.edge(4, "SCOPE 1 to 5 (5 at first)", () -> oneNumber("scope", 1, 5, 5));
        Check.edge(4, "PERIOD 0 to 20 (0)", () -> oneNumber("session", 0, 20, 6));
        Check.edge(4, "RATE 0 to 20 (0)", () -> oneNumber("rate", 0, 20, 7));
        Check.edge(4, "Numbers are of 1 to 3 digits.", TextEdges::digits);
        Check.edge(4, "Words are as long as a to z go on", TextEdges::words);
        Check.edge(4, "between all there may be blanks (32), also ahead and behind", TextEdges::blanks);
        Check.edge(4, "A text that is empty, or blanks alone, has no LINE.", TextEdges::emptyTexts);
        Check.edge(4, "Of a wrong text nothing stays.", TextEdges::wrongTextLeavesNothing);
        Check.edge(4, "a call that throws changes nothing but the TAPE, where it is used up, and fault()",
            TextEdges::refusedTextLeavesNothing);

        Check.edge(5, "NONE without one, and ahead of any", TextEdges::noFault);
        Check.edge(5, "The first wrong byte of the latest text that was read", TextEdges::latestFault);
        Check.edge(5, "where a text is read (also by one that is refused)", TextEdges::faultOfARefusedText);
        Check.edge(5, "the begin of the first thing that cannot stand there", TextEdges::firstWrongThing);
        Check.edge(5, "a number of more digits, or out of its bounds, or that tells none that can be",
            TextEdges::wrongNumber);
        Check.edge(5, "a word that is none", TextEdges::wrongWord);
        Check.edge(5, "of a LINE, a NODE, a LINK too many, the first word", TextEdges::oneTooMany);
        Check.edge(5, "or the text's length, if more must come", TextEdges::moreMustCome);
    }

    private static void right(String first, String text) {
        RepairTalk talk = Check.group(first);
        Check.due("group of '" + text + "'", Check.tell(talk, text), 2);
        Check.due("fault of '" + text + "'", talk.fault(), -1);
    }

    private static void wrong(String first, String text, int fault) {
        Check.dueWrong(Check.group(first), text, fault);
    }

    // Promise 1

    private static void newObject() {
        RepairTalk talk = new RepairTalk();
        long[] none = {0, 1, 2, 12, 15};
        for (long what : none) {
            Check.due("count(" + what + ")", talk.count((int) what), 0);
        }
        Check.dueIndex("node(0, 0)", () -> talk.node(0, 0));
        Check.dueIndex("link(0, 0)", () -> talk.link(0, 0));
        Check.dueIndex("flight(0, 0)", () -> talk.flight(0, 0));
        Check.due("log(0, 0)", talk.log(0, 0), -1);
        Check.due("fault()", talk.fault(), -1);
        Check.due("end(1)", talk.end(1), false);
        Check.due("back()", talk.back(), false);
    }

    private static void newCount(int what, int want) {
        Check.due("count(" + what + ")", new RepairTalk().count(what), want);
    }

    private static void newRequest() {
        newCount(8, 8);
        newCount(9, 8);
    }

    private static void newRepair() {
        newCount(10, 4);
        newCount(11, 4);
    }

    private static void newCrowd() {
        newCount(13, 0);
        newCount(16, 0);
    }

    // Promise 2

    private static void behindTheTape() {
        RepairTalk talk = new RepairTalk();
        talk.feed(0x6e6f6421, 0, 0, 0, 0);
        Check.due("end(3)", talk.end(3), true);
        Check.due("feed behind 3", talk.feed(0x653b6e6f, 0x64652020, BLANKS, BLANKS, BLANKS), 23);
        Check.due("group of 'nod' and 'e;node'", talk.group(), 1);
        Check.due("nodes", talk.count(0), 2);
    }

    /** A byte that is none of the signs, in each place in turn, among blanks. */
    private static void highestFirst() {
        for (int place = 0; place < 20; place++) {
            int[] n = {BLANKS, BLANKS, BLANKS, BLANKS, BLANKS};
            n[place / 4] |= 0xFF << 8 * (3 - place % 4);
            RepairTalk talk = new RepairTalk();
            talk.feed(n[0], n[1], n[2], n[3], n[4]);
            Check.dueArgument("group", talk::group);
            Check.due("fault by byte " + place, talk.fault(), place);
        }
    }

    private static void howManyBytes() {
        RepairTalk talk = new RepairTalk();
        Check.due("feed", talk.feed(0, 0, 0, 0, 0), 20);
        Check.due("feed", talk.feed(-1, -1, -1, -1, -1), 40);
        talk.end(7);
        Check.due("feed behind 7", talk.feed(1, 2, 3, 4, 5), 27);
    }

    private static void tapeIsFull() {
        RepairTalk talk = new RepairTalk();
        for (int i = 1; i <= 19; i++) {
            Check.due("feed " + i, talk.feed(BLANKS, BLANKS, BLANKS, BLANKS, BLANKS), 20 * i);
        }
        Check.due("the twentieth", talk.feed(BLANKS, BLANKS, BLANKS, BLANKS, 0x6e6f6465), 400);
        Check.due("one behind 400", talk.feed(0, 0, 0, 0, 0), -1);
        Check.due("none came", talk.end(401), false);
        talk.end(399);
        Check.due("one behind 399", talk.feed(0, 0, 0, 0, 0), -1);
        Check.due("none came", talk.end(400), false);
        talk.end(381);
        Check.due("one behind 381", talk.feed(0, 0, 0, 0, 0), -1);
        Check.due("none came", talk.end(382), false);
        talk.end(380);
        Check.due("one behind 380", talk.feed(BLANKS, BLANKS, BLANKS, BLANKS, 0x6e6f6465), 400);
        Check.due("group of 400 bytes", talk.group(), 1);
        Check.due("nodes", talk.count(0), 1);
        Check.due("one behind the group", talk.feed(0, 0, 0, 0, 0), 20);
    }

    // Promise 3

    private static void endHolds() {
        RepairTalk talk = new RepairTalk();
        talk.feed(0x6e6f6465, 0x3b6e6f64, 0x65FFFFFF, -1, -1);
        Check.due("end of all", talk.end(20), true);
        Check.due("end(9)", talk.end(9), true);
        Check.due("end(9) again", talk.end(9), true);
        Check.due("end(10) is gone", talk.end(10), false);
        Check.due("group", talk.group(), 1);
        Check.due("nodes", talk.count(0), 2);
        talk.feed(-1, -1, -1, -1, -1);
        Check.due("end(0)", talk.end(0), true);
        Check.due("group of none", talk.group(), 2);
        Check.due("end(0) of none", talk.end(0), true);
    }

    private static void endRefuses() {
        RepairTalk talk = new RepairTalk();
        talk.feed(0x6e6f6465, BLANKS, BLANKS, BLANKS, BLANKS);
        int[] refused = {21, 400, Integer.MAX_VALUE, -1, -20, Integer.MIN_VALUE};
        for (int n : refused) {
            Check.due("end(" + n + ")", talk.end(n), false);
        }
        Check.due("all is there", talk.end(20), true);
        Check.due("group", talk.group(), 1);
        Check.due("nodes", talk.count(0), 1);
        for (int n : refused) {
            Twins.dueNothing("end(" + n + ")", twin -> twin.end(n));
        }
    }

    // Promise 4

    private static void usesTheTapeUp() {
        RepairTalk talk = new RepairTalk();
        Check.tell(talk, "node");
        Check.due("behind a right one", talk.end(1), false);
        Check.dueWrong(talk, "node;bad", 5);
        Check.due("a text of none", talk.group(), 2);
        RepairTalk full = twelve();
        Check.tape(full, "node");
        Check.dueThrow("the 13th", UnsupportedOperationException.class, full::group);
        Check.due("behind a refused one", full.end(1), false);
    }

    private static RepairTalk twelve() {
        RepairTalk talk = new RepairTalk();
        for (int i = 1; i <= 12; i++) {
            Check.due("text " + i, Check.tell(talk, i == 1 ? "node" : "rate " + i), i);
        }
        return talk;
    }

    private static void howManyTexts() {
        RepairTalk talk = new RepairTalk();
        Check.due("the first", Check.tell(talk, "node;node"), 1);
        Check.dueWrong(talk, "node;", 5);
        Check.due("wrong ones are not counted", Check.tell(talk, "node"), 2);
        Check.due("texts", talk.count(2), 2);
    }

    private static void twelveTexts() {
        RepairTalk talk = twelve();
        for (String text : new String[] {"node", "", "  ", "rate 20"}) {
            Check.tape(talk, text);
            Check.dueThrow("the 13th", UnsupportedOperationException.class, talk::group);
            Check.due("texts", talk.count(2), 12);
            Check.due("nodes", talk.count(0), 1);
            Check.due("rate", talk.count(7), 12);
        }
    }

    private static void wrongAheadOfTwelve() {
        RepairTalk talk = twelve();
        Check.dueWrong(talk, "rate 21", 5);
        Check.dueWrong(talk, "nod", 0);
    }

    private static void linesAndSemicolons() {
        wrong("", ";", 0);
        wrong("", ";node", 0);
        wrong("", "node;", 5);
        wrong("", "node;;node", 5);
        wrong("", "node node", 5);
        wrong("", "node:node", 4);
        right("", "node;node");
        right("", "node");
    }

    private static void fourteenLines() {
        right("", "rate 1;".repeat(13) + "rate 2");
        wrong("", "rate 1;".repeat(14) + "rate 2", 98);
        RepairTalk talk = Check.group(SIX);
        Check.due("fourteen", Check.tell(talk, "rate 1;".repeat(13) + "rate 20"), 2);
        Check.due("the last is read", talk.count(7), 20);
    }

    private static void sixNodes() {
        RepairTalk talk = Check.group(SIX);
        Check.due("nodes", talk.count(0), 6);
        Check.due("the last", talk.node(5, 0), 1);
        Check.dueIndex("behind the last", () -> talk.node(6, 0));
        Check.dueIndex("ahead of the first", () -> talk.node(-1, 0));
        Check.dueWrong(talk, "node", 0);
        Check.due("nodes", talk.count(0), 6);
        wrong("", SIX + ";node", 30);
        wrong("node;node;node", "node;node;node;node", 15);
    }

    /** All pairs of six nodes but five, in the order of their numbers. */
    private static String links(int howMany) {
        StringBuilder text = new StringBuilder();
        int told = 0;
        for (int a = 0; a < 6; a++) {
            for (int b = a + 1; b < 6 && told < howMany; b++) {
                text.append(told > 0 ? ";link " : "link ").append(a).append(' ').append(b).append(" delay 1 loss 0");
                told++;
            }
        }
        return text.toString();
    }

    private static void tenLinks() {
        RepairTalk talk = Check.group(SIX);
        Check.due("ten", Check.tell(talk, links(10)), 2);
        Check.due("links", talk.count(1), 10);
        Check.due("the last", talk.link(9, 0) * 10 + talk.link(9, 1), 23);
        Check.dueIndex("behind the last", () -> talk.link(10, 0));
        Check.dueIndex("ahead of the first", () -> talk.link(-1, 0));
        Check.dueWrong(talk, "link 2 4 delay 1 loss 0", 0);
        Check.due("links", talk.count(1), 10);
        wrong(SIX, links(11), links(10).length() + 1);
    }

    private static void nodeDown() {
        RepairTalk talk = Check.group("node down;node;node  down");
        Check.dueAll("up", new long[] {talk.node(0, 0), talk.node(1, 0), talk.node(2, 0)}, 0, 1, 0);
        wrong("", "node up", 5);
        wrong("", "node dow", 5);
        wrong("", "node downs", 5);
        wrong("", "node down down", 10);
        wrong("", "node 0", 5);
        wrong("", "down", 0);
    }

    private static void linkedNodesAreThere() {
        right("", "node;node;link 0 1 delay 1 loss 0");
        right("node", "node;link 0 1 delay 1 loss 0");
        right("node;node", "link 1 0 delay 1 loss 0");
        wrong("", "node;link 0 1 delay 1 loss 0;node", 12);
        wrong("", "link 0 1 delay 1 loss 0;node;node", 5);
        wrong("node;node", "link 0 2 delay 1 loss 0", 7);
        wrong("node;node", "link 2 0 delay 1 loss 0", 5);
        wrong(SIX, "link 5 6 delay 1 loss 0", 7);
        wrong(SIX, "link 6 5 delay 1 loss 0", 5);
        right(SIX, "link 5 4 delay 1 loss 0");
    }

    private static void linkedNodesAreUnlike() {
        wrong("node", "link 0 0 delay 1 loss 0", 7);
        wrong(SIX, "link 5 5 delay 1 loss 0", 7);
        wrong(SIX, "link 1 001 delay 1 loss 0", 7);
    }

    private static void linkedAlready() {
        String first = "node;node;node;link 0 1 delay 1 loss 0";
        wrong(first, "link 0 1 delay 2 loss 0", 7);
        wrong(first, "link 1 0 delay 2 loss 0", 7);
        wrong("node;node", "link 0 1 delay 1 loss 0;link 1 0 delay 2 loss 0", 31);
        right(first, "link 0 2 delay 1 loss 0;link 2 1 delay 1 loss 0");
        RepairTalk talk = Check.group(first);
        talk.cut(0, true);
        Check.dueWrong(talk, "link 0 1 delay 2 loss 0", 7);
    }

    private static void wrongAtTheSecond() {
        wrong("node;node", "link   1   1", 11);
        wrong("node;node;link 0 1 delay 1 loss 0", " link 1  0 ; node", 9);
        wrong("node;node", "link 1 1;", 7);
    }

    /** The least and the most stand, what is beside them does not. */
    private static void bounds(String first, String before, String behind, int least, int most) {
        right(first, before + least + behind);
        right(first, before + most + behind);
        wrong(first, before + (most + 1) + behind, before.length());
        wrong(first, before + "999" + behind, before.length());
        if (least > 0) {
            wrong(first, before + (least - 1) + behind, before.length());
        }
    }

    private static void delays() {
        bounds("node;node", "link 0 1 delay ", " loss 0", 1, 9);
        Check.due("9", Check.group("node;node;link 0 1 delay 9 loss 0").link(0, 2), 9);
        Check.due("1", Check.group("node;node;link 0 1 delay 001 loss 0").link(0, 2), 1);
    }

    private static void losses() {
        bounds("node;node", "link 0 1 delay 1 loss ", "", 0, 100);
        Check.due("100", Check.group("node;node;link 0 1 delay 1 loss 100").link(0, 3), 100);
        Check.due("0", Check.group("node;node;link 0 1 delay 1 loss 0").link(0, 3), 0);
    }

    private static void sources() {
        wrong("", "source 0", 7);
        wrong("", "source 0;node", 7);
        bounds("node;node", "source ", "", 0, 1);
        bounds(SIX, "source ", "", 0, 5);
        right("node", "node;source 1");
        wrong("node", "source 1;node", 7);
        Check.due("the last one", Check.group(SIX + ";source 5").count(3), 5);
    }

    private static void requestOfAll() {
        RepairTalk talk = Check.group("node;node down;request 0 32");
        Check.dueAll("of all", new long[] {talk.node(0, 4), talk.node(0, 5), talk.node(1, 4), talk.node(1, 5)},
            0, 32, 0, 32);
        Check.tell(talk, "request 32 0");
        Check.dueAll("anew", new long[] {talk.node(0, 4), talk.node(0, 5), talk.node(1, 4), talk.node(1, 5)},
            32, 0, 32, 0);
        Check.dueAll("as told", new long[] {talk.count(8), talk.count(9)}, 32, 0);
        Check.due("D1 stays", talk.count(10), 4);
        Check.tell(talk, "repair 1 2");
        Check.due("C1 stays", talk.node(1, 4), 32);
    }

    private static void requestOfNew() {
        RepairTalk talk = Check.group("node;request 3 4;node;request 5 6");
        Check.dueAll("there by then", new long[] {talk.node(0, 4), talk.node(1, 5)}, 5, 6);
        Check.tell(talk, "node");
        Check.dueAll("new", new long[] {talk.node(2, 4), talk.node(2, 5)}, 5, 6);
        Check.due("new ahead of any request", Check.group("node").node(0, 4), 8);
        Check.due("new ahead of any request", Check.group("node").node(0, 5), 8);
    }

    private static void factors() {
        bounds("node", "request ", " 7", 0, 32);
        bounds("node", "request 7 ", "", 0, 32);
        bounds("node", "repair ", " 7", 0, 32);
        bounds("node", "repair 7 ", "", 0, 32);
        RepairTalk talk = Check.group("request 32 0;repair 0 32");
        Check.dueAll("told", new long[] {talk.count(8), talk.count(9), talk.count(10), talk.count(11)}, 32, 0, 0, 32);
    }

    private static void oneNumber(String word, int least, int most, int what) {
        bounds("node", word + " ", "", least, most);
        RepairTalk talk = Check.group(word + " " + least);
        Check.due("the least", talk.count(what), least);
        Check.tell(talk, word + " " + most);
        Check.due("the most", talk.count(what), most);
    }

    private static void digits() {
        right("", "rate 7");
        right("", "rate 07");
        right("", "rate 007");
        wrong("", "rate 0007", 5);
        wrong("", "rate 0000", 5);
        wrong("", "rate 99999999999", 5);
        wrong("", "rate 4294967297", 5);
        wrong("", "rate", 4);
        Check.due("007", Check.group("rate 007").count(7), 7);
        Check.due("019", Check.group("rate 019").count(7), 19);
    }

    private static void words() {
        wrong("", "nod", 0);
        wrong("", "nodes", 0);
        wrong("", "nodedown", 0);
        wrong("", "nodea", 0);
        wrong("", "nodez", 0);
        wrong("", "node`", 4);
        wrong("", "node{", 4);
        wrong("", "nodE", 0);
        wrong("", "NODE", 0);
        wrong("", "node_down", 4);
        right("node;node", "link0 1delay2loss3");
        wrong("node;node", "link01delay2loss3", 6);
        wrong("node;node", "link0 1delay2lossx", 13);
    }

    private static void blanks() {
        right("node;node", "   link   0   1   delay   2   loss   3   ;   node   down   ");
        right("node;node", "link0 1delay2loss3;node down;node");
        wrong("", "\tnode", 0);
        wrong("", "node\t", 4);
        wrong("", "node\n;node", 4);
        wrong("", "node\0", 4);
        wrong("", "node\u00a0", 4);
        wrong("", "node\u001f", 4);
        wrong("", "node!", 4);
        wrong("", "no de", 0);
        wrong("", "rate 1 2", 7);
    }

    private static void emptyTexts() {
        for (String text : new String[] {"", " ", "     ", " ".repeat(400)}) {
            RepairTalk talk = Twins.busy();
            RepairTalk twin = Twins.busy();
            Check.due("a text", Check.tell(talk, text), 2);
            Check.due("no fault", talk.fault(), -1);
            twin.end(0);
            twin.group();
            Twins.dueAlike("'" + text + "'", talk, twin);
            Check.due("nodes", talk.count(0), 4);
            Check.due("nodes of a new object", Check.group(text).count(0), 0);
        }
    }

    /** Wrong in the last place that can be, behind lines of all kinds. */
    private static void wrongTextLeavesNothing() {
        String[] texts = {"node;node down;link 4 5 delay 1 loss 1;link 0 2 delay 1 loss 0;request 1 1;repair 1 1;"
            + "scope 1;session 1;rate 1;source 3;bad", "request 9 33", "repair 31 99", "node down x",
            "link 0 2 delay 3 loss 101", "link 0 2 delay 3", "source 1;source 4"};
        for (String text : texts) {
            RepairTalk talk = Twins.busy();
            RepairTalk twin = Twins.busy();
            Check.tape(talk, text);
            Check.dueArgument("group", talk::group);
            twin.end(0);
            // Both read an empty text then, so that the faults are alike, too.
            Twins.dueAlike("'" + text + "'", talk, twin);
            talk.group();
            twin.group();
            Twins.dueAlikeOn("'" + text + "'", talk, twin);
        }
    }

    private static void refusedTextLeavesNothing() {
        RepairTalk talk = twelve();
        RepairTalk twin = twelve();
        Check.tape(talk, "node;request 1 1;repair 1 1;scope 1;session 1;rate 1;source 1");
        Check.dueThrow("the 13th", UnsupportedOperationException.class, talk::group);
        Twins.dueAlike("refused", talk, twin);
        talk.ticks(40);
        twin.ticks(40);
        Twins.dueAlike("refused, 40 on", talk, twin);
    }

    // Promise 5

    private static void noFault() {
        RepairTalk talk = new RepairTalk();
        Check.due("ahead of any", talk.fault(), -1);
        talk.feed(-1, -1, -1, -1, -1);
        Check.due("ahead of any that was read", talk.fault(), -1);
        talk.end(0);
        talk.group();
        Check.due("without one", talk.fault(), -1);
        Check.tell(talk, "node;node");
        Check.due("without one", talk.fault(), -1);
    }

    private static void latestFault() {
        RepairTalk talk = new RepairTalk();
        Check.dueWrong(talk, "node;bad", 5);
        talk.image();
        talk.feed(-1, -1, -1, -1, -1);
        talk.ticks(5);
        Check.due("it stays", talk.fault(), 5);
        Check.dueWrong(talk, "bad", 0);
        talk.back();
        Check.due("it stays by the image", talk.fault(), 0);
        Check.tell(talk, "node");
        Check.due("none by a right one", talk.fault(), -1);
    }

    private static void faultOfARefusedText() {
        RepairTalk talk = twelve();
        Check.dueWrong(talk, "node;bad", 5);
        Check.tape(talk, "node");
        Check.dueThrow("the 13th", UnsupportedOperationException.class, talk::group);
        Check.due("none of a right one that is refused", talk.fault(), -1);
    }

    private static void firstWrongThing() {
        wrong("", "bad;worse", 0);
        wrong("", "rate 21;rate 22", 5);
        wrong("node;node", "link 5 5 delay 0 loss 101", 5);
        wrong("node;node", "link 0 1 loss 1 delay 1", 9);
        wrong("node;node", "link 0 1 delay loss 1", 15);
        wrong("node;node", "link 0 1 delay 1 loss ;", 22);
        wrong("node;node", "link 0 ; 1 delay 1 loss 0", 7);
        wrong("node;node", "link x", 5);
        wrong("", "scope five", 6);
        wrong("", "rate -1", 5);
        wrong("", "rate +1", 5);
        wrong("", "rate 1.5", 6);
        wrong("", "rate 1/", 6);
        wrong("", "rate 1:", 6);
        wrong("", "7", 0);
        wrong("", "  \u00ff", 2);
        wrong("", "request 1;2", 9);
        wrong("", "repair 1 x", 9);
    }

    private static void wrongNumber() {
        wrong("node;node", "link 0000 1 delay 1 loss 0", 5);
        wrong("node;node", "link 0 0001 delay 1 loss 0", 7);
        wrong("node;node", "link 0 1 delay 0001 loss 0", 15);
        wrong("node;node", "link 0 1 delay 1 loss 0000", 22);
        wrong("node;node", "link 0 1 delay 0 loss 0", 15);
        wrong("node;node", "link 0 1 delay 1 loss 101", 22);
        wrong("node;node", "source 2", 7);
        wrong("node;node", "source 0001", 7);
        wrong("", "request 0001 1", 8);
        wrong("", "request 1 0001", 10);
        wrong("", "repair 0001 1", 7);
        wrong("", "repair 1 0001", 9);
        wrong("", "scope 0001", 6);
        wrong("", "session 0001", 8);
    }

    private static void wrongWord() {
        String[] lines = {"node", "link", "source", "request", "repair", "scope", "session", "rate"};
        for (String line : lines) {
            wrong("", line.substring(0, line.length() - 1) + " 1 1", 0);
            wrong("", line + "s 1 1", 0);
            wrong("", "node;  " + line.toUpperCase() + " 1 1", 7);
            wrong("", "x" + line.substring(1) + " 1 1", 0);
        }
        wrong("node;node", "link 0 1 delays 1 loss 0", 9);
        wrong("node;node", "link 0 1 dela 1 loss 0", 9);
        wrong("node;node", "link 0 1 delay 1 los 0", 17);
        wrong("node;node", "link 0 1 delay 1 losses 0", 17);
    }

    private static void oneTooMany() {
        wrong("", "rate 1;".repeat(14) + "rate 1", 98);
        wrong("", "rate 1;".repeat(14) + "   bad 7", 101);
        wrong("", "rate 1;".repeat(13) + "rate 1 ;  node", 101);
        wrong(SIX, "rate 1; node bad", 8);
        wrong(SIX, "node down", 0);
        RepairTalk talk = Check.group(SIX);
        Check.tell(talk, links(10));
        Check.dueWrong(talk, " link 0 0", 1);
        Check.dueWrong(talk, "rate 1;link x", 7);
        Check.dueWrong(talk, "link", 0);
    }

    private static void moreMustCome() {
        String[] links = {"link", " 0", " 1", " delay", " 1", " loss"};
        StringBuilder text = new StringBuilder();
        for (String thing : links) {
            text.append(thing);
            wrong("node;node", text.toString(), text.length());
            wrong("node;node", text + "  ", text.length() + 2);
        }
        String[] others = {"source", "request", "request 1", "repair", "repair 1", "scope", "session", "rate", "node;",
            "node ; ", "node;rate"};
        for (String other : others) {
            wrong("node", other, other.length());
            wrong("node", other + " ", other.length() + 1);
        }
        wrong("", "rate 1;".repeat(14), 98);
        wrong("", "rate 1" + " ".repeat(393) + ";", 400);
        wrong("", " ".repeat(396) + "rate", 400);
    }
}

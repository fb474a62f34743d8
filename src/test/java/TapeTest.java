/** Promises 2 to 5: the tape, the texts of the group and the first wrong byte. */
public final class TapeTest {
    private static final String NODES = "node;node;node;node;node;node";

    private static void feedAndEnd() {
        RepairTalk talk = new RepairTalk();
        Check.due("end(-1)", talk.end(-1), false);
        for (int i = 1; i <= 20; i++) {
            Check.due("feed " + i, talk.feed(0x20202020, 0x20202020, 0x20202020, 0x20202020, 0x20202020), 20 * i);
        }
        Check.due("feed 21", talk.feed(0, 0, 0, 0, 0), -1);
        Check.due("end(401)", talk.end(401), false);
        Check.due("end(381)", talk.end(381), true);
        Check.due("feed behind 381", talk.feed(0, 0, 0, 0, 0), -1);
        Check.due("end(382)", talk.end(382), false);
        Check.due("end(380)", talk.end(380), true);
        Check.due("feed behind 380", talk.feed(0x20202020, 0x20202020, 0x20202020, 0x20202020, 0x206e6f64), 400);
        Check.dueArgument("group", talk::group);
        Check.due("fault", talk.fault(), 397);
        Check.due("end behind group", talk.end(1), false);
        Check.due("a text of 0 bytes", talk.group(), 1);
        Check.due("fault", talk.fault(), -1);
        // The highest byte comes first, and bytes above 127 are wrong like others.
        talk.feed(0x6e6f6465, 0xFF000000, 0, 0, 0);
        talk.end(5);
        Check.dueArgument("group", talk::group);
        Check.due("fault", talk.fault(), 4);
    }

    /** A text on a group with a first one. */
    private static void wrong(String first, String text, int fault) {
        RepairTalk talk = Check.group(first);
        int[] before = state(talk);
        Check.tape(talk, text);
        Check.dueArgument("group of '" + text + "'", talk::group);
        Check.due("fault of '" + text + "'", talk.fault(), fault);
        Check.due("the tape behind '" + text + "'", talk.end(1), false);
        int[] after = state(talk);
        for (int i = 0; i < before.length; i++) {
            Check.due("count(" + i + ") behind '" + text + "'", after[i], before[i]);
        }
    }

    private static int[] state(RepairTalk talk) {
        int[] state = new int[17];
        for (int what = 0; what < state.length; what++) {
            state[what] = talk.count(what);
        }
        return state;
    }

    private static void wrongWords() {
        wrong("", "nodes", 0);
        wrong("", " nodedown", 1);
        wrong("", "nodez", 0);
        wrong("", "nodea", 0);
        wrong("", "node{", 4);
        wrong("", "node`", 4);
        wrong("", "Node", 0);
        wrong("", "noDe", 0);
        wrong("", "\tnode", 0);
        wrong("", "node up", 5);
        wrong("", "node downs", 5);
        wrong("", "node down down", 10);
        wrong("", "node 1", 5);
        wrong("", "node,node", 4);
        wrong("", ";", 0);
        wrong("", "node;;node", 5);
        wrong("", "node;  ", 7);
        wrong("", "3", 0);
        wrong("node;node", "link 0 1 late 2 loss 0", 9);
        wrong("node;node", "link 0 1 delay 2 los 0", 17);
        wrong("node;node", "link 0 1 2", 9);
        wrong("node;node", "link 0 1 delay 2 loss 0 0", 24);
        wrong("node;node", "link 0 1 delay 2 ;", 17);
        wrong("node;node", "link 0 1 delay 2", 16);
        wrong("node;node", "link", 4);
        wrong("node;node", "link ", 5);
        wrong("node;node", "rate", 4);
        wrong("node;node", "rate x", 5);
        wrong("node;node", "rate -1", 5);
    }

    private static void wrongNumbers() {
        wrong("node;node", "link 2 0 delay 1 loss 0", 5);
        wrong("node;node", "link 0 2 delay 1 loss 0", 7);
        wrong("node;node", "link 1 1 delay 1 loss 0", 7);
        wrong("node;node;link 0 1 delay 1 loss 0", "link 1 0 delay 1 loss 0", 7);
        wrong("node;node", "link 0 1 delay 1 loss 0;link 0 1 delay 1 loss 0", 31);
        wrong("node;node", "link 0 1 delay 0 loss 0", 15);
        wrong("node;node", "link 0 1 delay 10 loss 0", 15);
        wrong("node;node", "link 0 1 delay 9 loss 101", 22);
        wrong("node;node", "link 01 delay 9 loss 0", 8);
        wrong("node;node", "link 0 0001 delay 9 loss 0", 7);
        wrong("node;node", "source 2", 7);
        wrong("", "source 0", 7);
        wrong("", "source 0;node", 7);
        wrong("", "request 33 0", 8);
        wrong("", "request 0 33", 10);
        wrong("", "request 0", 9);
        wrong("", "request 0;", 9);
        wrong("", "repair 33 0", 7);
        wrong("", "repair 32 0100", 10);
        wrong("", "scope 0", 6);
        wrong("", "scope 6", 6);
        wrong("", "session 21", 8);
        wrong("", "rate 21", 5);
        wrong("", "rate 99999999999999999999", 5);
        wrong("", "rate 1/", 6);
        wrong("", "rate 1:", 6);
    }

    private static void tooMany() {
        wrong(NODES, "node", 0);
        wrong("node;node", "node;node;node;node; node down", 21);
        wrong("", "rate 1;" .repeat(14) + " rate 1", 99);
        wrong("", "rate 1;" .repeat(14), 98);
        wrong("", "rate 1;" .repeat(14) + "  9", 100);
        RepairTalk talk = Check.group(NODES);
        StringBuilder links = new StringBuilder();
        for (int i = 1; i < 6; i++) {
            links.append(";link 0 ").append(i).append(" delay 1 loss 0");
        }
        for (int i = 2; i < 6; i++) {
            links.append(";link 1 ").append(i).append(" delay 1 loss 0");
        }
        Check.due("nine links", Check.tell(talk, links.substring(1)), 2);
        Check.due("the tenth", Check.tell(talk, "link 2 3 delay 1 loss 0"), 3);
        Check.tape(talk, "rate 3; link 9 4 delay 1 loss 0");
        Check.dueArgument("the eleventh", talk::group);
        Check.due("fault of the eleventh", talk.fault(), 8);
        Check.due("links", talk.count(1), 10);
        Check.due("rate", talk.count(7), 0);
        Check.due("fourteen lines", Check.tell(talk, "rate 1;" .repeat(13) + "rate 2"), 4);
    }

    private static void rightTexts() {
        RepairTalk talk = Check.group("   ");
        Check.due("blanks alone", talk.count(0), 0);
        Check.due("close", Check.tell(talk, "node;nodedown".replace("down", " down ") + ";link0 1delay7loss100"), 2);
        Check.due("up", talk.node(0, 0), 1);
        Check.due("down", talk.node(1, 0), 0);
        Check.due("delay", talk.link(0, 2), 7);
        Check.due("loss", talk.link(0, 3), 100);
        Check.due("wide", Check.tell(talk, "  request  001  32 ;  repair 0 031;scope 4;session 20;rate 20 "), 3);
        Check.dueAll("told", new long[] {talk.count(8), talk.count(9), talk.count(10), talk.count(11), talk.count(5),
            talk.count(6), talk.count(7)}, 1, 32, 0, 31, 4, 20, 20);
        Check.due("C1 of all", talk.node(1, 4), 1);
        Check.due("C2 of all", talk.node(1, 5), 32);
        Check.due("source", Check.tell(talk, "node;source 2;request 3 4;node"), 4);
        Check.dueAll("nodes", new long[] {talk.count(0), talk.count(3), talk.node(0, 4), talk.node(2, 5),
            talk.node(3, 4), talk.node(3, 5)}, 4, 2, 3, 4, 3, 4);
    }

    private static void twelveTexts() {
        RepairTalk talk = new RepairTalk();
        for (int i = 1; i <= 12; i++) {
            Check.due("text " + i, Check.tell(talk, "rate " + i), i);
        }
        Check.tape(talk, "rate 21");
        Check.dueArgument("a wrong one is told ahead", talk::group);
        Check.due("fault", talk.fault(), 5);
        Check.tape(talk, "rate 20");
        Check.dueThrow("text 13", UnsupportedOperationException.class, talk::group);
        Check.due("fault of the refused one", talk.fault(), -1);
        Check.due("the tape", talk.end(1), false);
        Check.due("texts", talk.count(2), 12);
        Check.due("rate", talk.count(7), 12);
    }

    public static void main(String[] args) {
        feedAndEnd();
        wrongWords();
        wrongNumbers();
        tooMany();
        rightTexts();
        twelveTexts();
        Check.finish();
    }
}

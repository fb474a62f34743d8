/** Promises 24, 25, 35 and 38 to 42: what is ahead, the log, the seed, the image and the counts. */
public final class AheadTest {
    /** Node 1 (and 2) missed packet 0; packet 1 comes by TICK 4. */
    private static RepairTalk missing(String request, String repair) {
        RepairTalk talk = Check.group("node;node down;node down;link 0 1 delay 1 loss 0;link 0 2 delay 1 loss 0;"
            + "request " + request + ";repair " + repair);
        talk.send();
        talk.ticks(3);
        talk.wake(1, true);
        talk.wake(2, true);
        talk.send();
        return talk;
    }

    /** Asks at 8 (late 10), is heard at 9 (11), answers at 10 (14), is there at 11 (15), so 9 (13) TICKS from 3. */
    private static void wholeAndTalk() {
        RepairTalk talk = missing("4 2", "1 2");
        talk.seed(77);
        Check.due("whole", talk.whole(false), 9);
        Check.due("whole late", talk.whole(true), 13);
        Check.due("requests", talk.talk(5, false, false), 0);
        Check.due("requests", talk.talk(6, false, false), 2);
        Check.due("requests late", talk.talk(7, true, false), 0);
        Check.due("requests late", talk.talk(8, true, false), 2);
        Check.due("repairs", talk.talk(7, false, true), 0);
        Check.due("repairs", talk.talk(8, false, true), 1);
        Check.due("repairs late", talk.talk(11, true, true), 0);
        Check.due("repairs late", talk.talk(12, true, true), 1);
        Check.due("all requests", talk.talk(120, true, false), 2);
        Check.due("all repairs", talk.talk(120, false, true), 1);
        Check.due("nothing stays", talk.count(14), 3);
        Check.due("nor of messages", talk.count(12), 2);
        Check.due("nor of the log", talk.count(15), 2);
        Check.due("nor of loads", talk.link(0, 5), 2);
        Check.due("nor of draws", talk.seed(77), 77);
        Check.dueArgument("talk 121", () -> talk.talk(121, true, false));
        Check.dueArgument("talk -1", () -> talk.talk(-1, false, true));
    }

    private static void noneIsLostAhead() {
        RepairTalk talk = Check.group("node;node;link 0 1 delay 9 loss 100;rate 20;session 20");
        Check.due("whole of nothing", talk.whole(false), 0);
        talk.ticks(1);
        Check.due("gap", talk.gap(1, 0, 0), 0);
        // Node 1 hears of packet 0 by the report of TICK 20 or by packet 1 at 29, asks at 37, answered at 46, 50, 59.
        Check.due("whole", talk.whole(false), 59);
        Check.due("whole late", talk.whole(true) > 59, true);
        talk.wake(1, false);
        Check.due("whole without it", talk.whole(true), 0);
        talk.wake(1, true);
        talk.cut(0, true);
        Check.due("never", talk.whole(false), -1);
    }

    /** NEXT as it is then: with a packet each tick, the source's newest is on its way. */
    private static void wholeWithRate() {
        RepairTalk talk = Check.group("node;node;link 0 1 delay 1 loss 0;rate 1");
        Check.due("whole now", talk.whole(false), 0);
        talk.ticks(1);
        Check.due("when the twelfth is there", talk.whole(false), 12);
    }

    /** 120 TICKS ahead are looked at, and no more. */
    private static void farAhead() {
        RepairTalk talk = Check.group("node;node down;link 0 1 delay 1 loss 0;request 32 0;repair 32 0");
        talk.send();
        talk.ticks(2);
        talk.wake(1, true);
        talk.send();
        talk.ticks(2);
        // Asks at 35, which is heard at 36, answered at 68 and there at 69: 66 TICKS from 4.
        Check.due("whole", talk.whole(false), 66);
        talk.wake(0, false);
        talk.ticks(60);
        Check.due("asks again at", talk.timer(1, 0, 0), 99);
        talk.wake(0, true);
        Check.due("whole", talk.whole(false), 99 + 1 + 32 + 2 - 64);
        talk.wake(0, false);
        talk.ticks(60);
        Check.due("asks again at", talk.timer(1, 0, 0), 99 + 128);
        talk.wake(0, true);
        Check.due("too far ahead", talk.whole(false), -1);
        talk.ticks(17);
        Check.due("121 ahead", talk.whole(false), -1);
        talk.ticks(1);
        Check.due("120 ahead", talk.whole(false), 120);
    }

    private static void bests() {
        RepairTalk talk = missing("4 0", "0 0");
        Check.due("best of 0", talk.best(0, false), 0);
        Check.due("best of 2", talk.best(2, false), 0);
        // Both ask at 4 and C1, so that with TICKS 3 to 8 the least C1 without a request is 5.
        Check.due("best of 6", talk.best(6, false), 5);
        Check.due("best of 20", talk.best(20, true), 19);
        Check.due("C1 stays", talk.node(1, 4), 4);
        Check.due("C1 stays as told", talk.count(8), 4);
        talk.ticks(2);
        Check.due("ask", talk.timer(1, 0, 0), 8);
        // What was asked stays, so both ask at 8; by C1 of 0 they ask again ahead of the answer, that comes at 11.
        Check.due("best of 4", talk.best(4, false), 0);
        Check.due("best of 20", talk.best(20, false), 1);
        Check.dueArgument("best 21", () -> talk.best(21, false));
        Check.dueArgument("best -1", () -> talk.best(-1, true));
        Check.due("best of none", new RepairTalk().best(20, true), 0);
    }

    private static void logs() {
        RepairTalk talk = Check.group("node;node;node;node;node;node;link 0 1 delay 1 loss 0;link 1 2 delay 1 loss 0;"
            + "link 2 3 delay 1 loss 0;link 3 4 delay 1 loss 0;link 4 5 delay 1 loss 0;rate 1");
        talk.ticks(10);
        Check.due("rows", talk.count(15), 10 + 9 + 8 + 7 + 6 + 5);
        Check.due("the oldest", talk.log(44, 0), 0);
        Check.due("none behind", talk.log(45, 0), -1);
        talk.ticks(8);
        Check.due("rows at most", talk.count(15), 60);
        Check.due("none behind", talk.log(60, 0), -1);
        Check.due("the latest", talk.log(0, 0) * 1000 + talk.log(0, 1) * 100 + talk.log(0, 2) * 10, 16000 + 500 + 30);
        Check.due("its packet", talk.log(0, 3), 11);
        Check.due("the oldest", talk.log(59, 0), 4);
        talk.seed(5);
        talk.give(0, 0, false);
        talk.give(0, 0, true);
        Check.due("gifts are no rows", talk.log(0, 3), 11);
    }

    private static void seeds() {
        RepairTalk talk = Check.group("node;node;link 0 1 delay 1 loss 0");
        Check.due("seed", talk.seed(-5), 1);
        Check.due("seed", talk.seed(Integer.MIN_VALUE), -5);
        talk.send();
        Check.due("drawn", talk.seed(1), Integer.MIN_VALUE + 12345);
    }

    private static void images() {
        RepairTalk talk = missing("4 2", "1 2");
        Check.due("back without", talk.back(), false);
        Check.due("tick", talk.count(14), 3);
        talk.image();
        Check.tape(talk, "rate 9");
        talk.ticks(40);
        talk.cut(0, true);
        talk.wake(2, false);
        talk.loss(1, 50);
        talk.give(0, 0, false);
        int seed = talk.seed(3);
        talk.group();
        Check.tape(talk, "rate 21");
        Check.dueArgument("a wrong text", talk::group);
        Check.tape(talk, "node");
        Check.due("seed was drawn", seed != 1, true);
        Check.due("back", talk.back(), true);
        Check.dueAll("as kept", new long[] {talk.count(14), talk.count(7), talk.count(12), talk.count(15),
            talk.link(0, 4), talk.node(2, 0), talk.link(1, 3), talk.node(0, 1), talk.count(2), talk.node(1, 7),
            talk.way(0, 1, false), talk.log(0, 0)}, 3, 0, 2, 2, 0, 1, 0, 3, 1, 0, 1, 3);
        Check.due("fault stays", talk.fault(), 5);
        Check.due("the tape stays", talk.group(), 2);
        Check.due("nodes", talk.count(0), 4);
        Check.due("back again", talk.back(), true);
        Check.due("nodes", talk.count(0), 3);
        Check.due("the same way on", talk.ticks(40), 4);
        Check.due("and its draws", talk.seed(3), seed);
        talk.image();
        talk.ticks(1);
        talk.back();
        Check.due("the later image", talk.count(14), 43);
    }

    private static void counts() {
        RepairTalk talk = Check.group("node;node;node;link 0 1 delay 1 loss 0;source 1;scope 2;session 3;rate 4;"
            + "request 5 6;repair 7 10");
        Check.tell(talk, "");
        talk.send();
        long[] want = {3, 1, 2, 1, 1, 2, 3, 4, 5, 6, 7, 10, 1, 0, 0, 1, 0};
        for (int what = 0; what < want.length; what++) {
            Check.due("count(" + what + ")", talk.count(what), want[what]);
        }
        Check.due("count(17)", talk.count(17), -1);
        Check.due("count(-1)", talk.count(-1), -1);
        Check.due("count far off", talk.count(Integer.MIN_VALUE), -1);
    }

    public static void main(String[] args) {
        wholeAndTalk();
        noneIsLostAhead();
        wholeWithRate();
        farAhead();
        bests();
        logs();
        seeds();
        images();
        counts();
        Check.finish();
    }
}

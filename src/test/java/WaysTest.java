/** Promises 15, 18, 19, 22, 26, 29 to 31, 34 and 36: ways, trees and what is asked of the links. */
public final class WaysTest {
    private static final String SQUARE = "node;node;node;node;link 0 1 delay 1 loss 0;link 0 2 delay 1 loss 0;"
        + "link 1 3 delay 1 loss 0;link 2 3 delay 1 loss 0";

    private static void square() {
        RepairTalk talk = Check.group(SQUARE);
        Check.due("way", talk.way(0, 3, false), 2);
        Check.due("hops", talk.way(0, 3, true), 2);
        Check.due("above, the least", talk.above(0, 3), 1);
        Check.due("above", talk.above(3, 0), 1);
        Check.due("above", talk.above(1, 2), 0);
        Check.due("above itself", talk.above(2, 2), -1);
        Check.due("crossed", talk.crossed(0, 5), 7);
        Check.due("crossed", talk.crossed(1, 5), 1 | 2 | 4);
        Check.due("crossed 1", talk.crossed(3, 1), 12);
        Check.due("crossed 0", talk.crossed(3, 0), 0);
        Check.due("reach", talk.reach(0, 1), 7);
        Check.due("reach", talk.reach(0, 2), 15);
        Check.due("reach 0", talk.reach(3, 0), 8);
        Check.due("parts", talk.parts(), 0);
        Check.due("center", talk.center(), 0);
        Check.due("spread 0", talk.spread(0), 15);
        Check.due("spread 1", talk.spread(1), 3);
        Check.due("spread 2", talk.spread(2), 1);
        Check.due("cut", talk.cut(0, true), true);
        Check.due("cut again", talk.cut(0, true), false);
        Check.due("parts", talk.parts(), 14);
        Check.due("way", talk.way(0, 1, false), 3);
        Check.due("hops", talk.way(0, 1, true), 3);
        Check.dueAll("route", new long[] {talk.route(0, 1, 0), talk.route(0, 1, 1), talk.route(0, 1, 2),
            talk.route(0, 1, 3), talk.route(0, 1, 4), talk.route(0, 1, -1)}, 0, 2, 3, 1, -1, -1);
        Check.due("center", talk.center(), 2);
        talk.cut(3, true);
        Check.due("no way", talk.way(0, 1, false), -1);
        Check.due("no hops", talk.way(0, 1, true), -1);
        Check.due("none above", talk.above(0, 1), -1);
        Check.due("no route", talk.route(0, 1, 0), -1);
        Check.due("route to itself", talk.route(0, 0, 0), 0);
        Check.due("route to itself, on", talk.route(0, 0, 1), -1);
        Check.due("reach", talk.reach(0, 5), 5);
        Check.due("parts", talk.parts(), 6);
        Check.due("spread", talk.spread(5), 3);
        Check.due("mended", talk.cut(0, false), true);
        Check.due("way", talk.way(0, 1, false), 1);
    }

    /** A long link beside a short way round, and a way by a node that is down. */
    private static void longLink() {
        RepairTalk talk = Check.group("node;node down;node;link 0 2 delay 9 loss 0;link 1 0 delay 4 loss 0;"
            + "link 2 1 delay 4 loss 0");
        Check.due("way", talk.way(0, 2, false), 8);
        Check.due("hops", talk.way(0, 2, true), 2);
        Check.due("above", talk.above(0, 2), 1);
        Check.due("crossed", talk.crossed(0, 5), 6);
        Check.due("told", talk.link(1, 0) * 10 + talk.link(1, 1), 10);
        talk.send();
        Check.due("by 8", talk.flight(1, 0), 8);
        // Two ways of one length: the one above is the least, so the direct link is taken.
        RepairTalk like = Check.group("node;node;node;link 0 2 delay 8 loss 0;link 1 0 delay 4 loss 0;"
            + "link 2 1 delay 4 loss 0");
        Check.due("above", like.above(0, 2), 0);
        Check.due("hops", like.way(0, 2, true), 1);
        Check.due("above the other way", like.above(2, 0), 1);
        Check.due("hops the other way", like.way(2, 0, true), 2);
        Check.due("reach", like.reach(0, 1), 7);
        Check.due("reach the other way", like.reach(2, 1), 6);
    }

    private static void centers() {
        Check.due("of one", Check.group("node").center(), 0);
        RepairTalk talk = Check.group("node;node;node;node;link 1 2 delay 1 loss 0;link 2 3 delay 5 loss 0");
        Check.due("of the most", talk.center(), 2);
        RepairTalk two = Check.group("node;node;node;node;link 0 1 delay 3 loss 0;link 2 3 delay 2 loss 0");
        Check.due("the least way", two.center(), 2);
        Check.due("parts", two.parts(), 3);
    }

    private static void guards() {
        RepairTalk talk = Check.group(SQUARE);
        Check.due("nobody has it", talk.guard(3, 0), -1);
        talk.send();
        Check.due("two links", talk.guard(3, 0), 3);
        Check.due("itself", talk.guard(0, 0), -1);
        Check.due("of 1", talk.guard(1, 0), 3);
        talk.give(1, 0, true);
        Check.due("two that have it", talk.guard(3, 0), 6);
        Check.due("two that have it", talk.guard(2, 0), 6);
        talk.wake(1, false);
        Check.due("one is down", talk.guard(2, 0), 3);
        Check.due("it is down itself", talk.guard(1, 0), 3);
        talk.cut(1, true);
        Check.due("a cut link is none", talk.guard(3, 0), 1);
        talk.cut(0, true);
        Check.due("no way", talk.guard(3, 0), -1);
        Check.dueIndex("guard none", () -> talk.guard(4, 0));
        Check.dueIndex("guard no packet", () -> talk.guard(0, 12));
    }

    private static void wrong() {
        RepairTalk talk = Check.group(SQUARE);
        Check.dueIndex("way", () -> talk.way(4, 0, true));
        Check.dueIndex("way", () -> talk.way(0, 4, false));
        Check.dueIndex("above", () -> talk.above(-1, 0));
        Check.dueIndex("above", () -> talk.above(0, 6));
        Check.dueIndex("route", () -> talk.route(0, 4, 0));
        Check.dueIndex("reach", () -> talk.reach(4, 6));
        Check.dueArgument("reach", () -> talk.reach(0, 6));
        Check.dueArgument("reach", () -> talk.reach(0, -1));
        Check.dueIndex("crossed", () -> talk.crossed(-1, -1));
        Check.dueArgument("crossed", () -> talk.crossed(3, -1));
        Check.dueArgument("spread", () -> talk.spread(6));
        Check.dueArgument("spread", () -> talk.spread(-1));
        Check.due("k far off", talk.route(0, 3, Integer.MAX_VALUE), -1);
        Check.due("k far off", talk.route(0, 3, Integer.MIN_VALUE), -1);
    }

    /** Six nodes in a line: five hops are the most. */
    private static void line() {
        RepairTalk talk = Check.group("node;node;node;node;node;node;link 4 5 delay 9 loss 0;link 3 4 delay 9 loss 0;"
            + "link 2 3 delay 9 loss 0;link 1 2 delay 9 loss 0;link 0 1 delay 9 loss 0");
        Check.due("way", talk.way(0, 5, false), 45);
        Check.due("hops", talk.way(0, 5, true), 5);
        for (int k = 0; k < 6; k++) {
            Check.due("route " + k, talk.route(5, 0, k), 5 - k);
            Check.due("reach " + k, talk.reach(0, k), (2 << k) - 1);
        }
        Check.due("center", talk.center(), 2);
        Check.due("spread 1", talk.spread(1), 1 << 1 | 1 << 4);
        Check.due("spread 2", talk.spread(2), 1 << 0 | 1 << 3);
        talk.send();
        Check.due("far", talk.far(5, 0), 5);
        Check.due("the last comes", talk.flight(4, 0), 45);
        talk.give(3, 0, true);
        Check.due("far", talk.far(5, 0), 2);
        Check.due("near", talk.near(5, 0), 3);
        Check.due("near, the least", talk.near(1, 0), 0);
    }

    public static void main(String[] args) {
        square();
        longLink();
        centers();
        guards();
        wrong();
        line();
        Check.finish();
    }
}

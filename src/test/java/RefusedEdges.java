import java.util.NoSuchElementException;

/** Each call that may throw, refused in the middle of a talk: nothing changes by that. */
final class RefusedEdges {
    private static final String NOTHING =
        "a call that throws changes nothing but the TAPE, where it is used up, and fault()";

    private RefusedEdges() {
    }

    interface Asked {
        long of(RepairTalk talk);
    }

    private static void index(int promise, Asked call) {
        refused(promise, IndexOutOfBoundsException.class, call);
    }

    private static void argument(int promise, Asked call) {
        refused(promise, IllegalArgumentException.class, call);
    }

    private static void element(int promise, Asked call) {
        refused(promise, NoSuchElementException.class, call);
    }

    private static void refused(int promise, Class<? extends RuntimeException> want, Asked call) {
        Check.edge(promise, NOTHING, () -> Twins.dueNothing(want.getSimpleName(),
            talk -> Check.dueThrow("the call", want, () -> call.of(talk))));
    }

    static void all() {
        index(6, talk -> talk.node(4, 0));
        element(6, talk -> talk.node(0, 11));
        index(7, talk -> talk.est(0, 4));
        argument(7, talk -> talk.est(1, 1));
        index(8, talk -> talk.timer(0, 12, 0));
        element(8, talk -> talk.timer(0, 0, 8));
        index(9, talk -> talk.gap(4, 0, 0));
        index(10, talk -> talk.link(4, 0));
        element(10, talk -> talk.link(0, 6));
        index(11, talk -> talk.flight(64, 0));
        element(11, talk -> talk.flight(0, 6));
        argument(12, talk -> talk.ticks(0));
        argument(12, talk -> talk.ticks(61));
        index(14, talk -> talk.wake(4, true) ? 1 : 0);
        index(15, talk -> talk.cut(4, true) ? 1 : 0);
        index(16, talk -> talk.loss(4, 0));
        argument(16, talk -> talk.loss(0, 101));
        index(17, talk -> talk.give(4, 0, true) ? 1 : 0);
        index(17, talk -> talk.give(0, 12, true) ? 1 : 0);
        refused(17, IllegalStateException.class, talk -> talk.give(0, 11, true) ? 1 : 0);
        asked();
    }

    private static void asked() {
        index(18, talk -> talk.way(0, 4, false));
        index(19, talk -> talk.above(4, 0));
        index(20, talk -> talk.window(0, 12, false));
        index(21, talk -> talk.near(4, 0));
        index(22, talk -> talk.reach(4, 0));
        argument(22, talk -> talk.reach(0, 6));
        index(23, talk -> talk.far(0, 12));
        argument(25, talk -> talk.talk(121, false, true));
        index(27, talk -> talk.giver(4, 0, 0));
        index(28, talk -> talk.when(4, 0));
        index(29, talk -> talk.route(0, 4, 0));
        index(30, talk -> talk.crossed(4, 0));
        argument(30, talk -> talk.crossed(0, 6));
        index(32, talk -> talk.first(12));
        index(33, talk -> talk.blind(4));
        index(34, talk -> talk.guard(4, 0));
        argument(35, talk -> talk.best(21, true));
        argument(36, talk -> talk.spread(6));
        index(37, talk -> talk.holders(12));
        element(38, talk -> talk.log(0, 4));
    }
}

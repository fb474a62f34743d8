import java.util.function.Consumer;

/** Two objects with one past: what a call that is refused leaves as it was shows in both, now and further on. */
final class Twins {
    private Twins() {
    }

    /** In the middle of its talk, with a text on the tape and an image of earlier. */
    static RepairTalk busy() {
        RepairTalk talk = Check.group("node;node;node;node;link 0 1 delay 2 loss 30;link 1 2 delay 1 loss 40;"
            + "link 2 3 delay 3 loss 10;link 0 3 delay 4 loss 20;session 4;rate 5;request 3 3;repair 8 3;scope 2");
        talk.ticks(17);
        talk.image();
        talk.ticks(11);
        talk.wake(2, false);
        talk.cut(3, true);
        talk.give(3, 0, false);
        talk.give(3, 2, true);
        talk.ticks(9);
        Check.tape(talk, "node;rate 3");
        return talk;
    }

    /** A twin would show little if nothing were on its way in it. */
    static void dueBusy() {
        String all = Look.at(busy());
        Check.due("messages of busy", all.contains("\nmessage 3:"), true);
        Check.due("an ASK of busy", all.matches("(?s).*packet \\d+: \\d+ [1-5] \\d+ [1-5] .*"), true);
        Check.due("an ANSWER of busy", all.matches("(?s).*packet \\d+: -1 -1 -1 -1 -1 \\d+ .*"), true);
        Check.due("a GAP of busy", all.matches("(?s).*packet \\d+:[-0-9 ]* [0-5] -1 -1 -1 -1 -1\n.*"), true);
    }

    static void dueAlike(String what, RepairTalk got, RepairTalk want) {
        String[] gotLines = Look.at(got).split("\n");
        String[] wantLines = Look.at(want).split("\n");
        for (int i = 0; i < Math.min(gotLines.length, wantLines.length); i++) {
            if (!gotLines[i].equals(wantLines[i])) {
                Check.due(what + ": '" + gotLines[i] + "', due is '" + wantLines[i] + "'", false, true);
                return;
            }
        }
        Check.due(what + ", lines", gotLines.length, wantLines.length);
    }

    /** Alike now, with what can't be seen (echoes, scopes), and by the tape and the image. */
    static void dueAlikeOn(String what, RepairTalk got, RepairTalk want) {
        dueAlike(what, got, want);
        Check.due(what + ", fault", got.fault(), want.fault());
        got.ticks(30);
        want.ticks(30);
        dueAlike(what + ", 30 on", got, want);
        Check.due(what + ", the tape", got.group(), want.group());
        dueAlike(what + ", by the tape", got, want);
        Check.due(what + ", back", got.back(), want.back());
        dueAlike(what + ", by the image", got, want);
        got.ticks(30);
        want.ticks(30);
        dueAlike(what + ", 30 on from the image", got, want);
    }

    /** The call is made on one of two: neither then nor later may they differ. */
    static void dueNothing(String what, Consumer<RepairTalk> call) {
        RepairTalk touched = busy();
        call.accept(touched);
        dueAlikeOn(what, touched, busy());
    }
}

/** What the tests share: texts put on the tape, answers held against those that are due. */
final class Check {
    interface Call {
        long answer();
    }

    private static int checks = 0;
    private static int wrong = 0;
    /** The sentence that is tested, ahead of each complaint; empty outside of an edge. */
    private static String about = "";
    private static final int[] edges = new int[43];

    private Check() {
    }

    static void due(String what, long got, long want) {
        checks++;
        if (got != want) {
            wrong++;
            System.out.println(about + what + " answered " + got + ", due is " + want);
        }
    }

    static void due(String what, boolean got, boolean want) {
        due(what, got ? 1 : 0, want ? 1 : 0);
    }

    static void dueAll(String what, long[] got, long... want) {
        due(what + ", how many", got.length, want.length);
        for (int i = 0; i < Math.min(got.length, want.length); i++) {
            due(what + " [" + i + "]", got[i], want[i]);
        }
    }

    /** The very class, so that an exception of the machine, which may be one below it, is none that is due. */
    static void dueThrow(String what, Class<? extends RuntimeException> want, Call call) {
        checks++;
        try {
            long got = call.answer();
            wrong++;
            System.out.println(about + what + " answered " + got + ", due is " + want.getSimpleName());
        } catch (RuntimeException e) {
            if (e.getClass() != want) {
                wrong++;
                System.out.println(about + what + " threw " + e + ", due is " + want.getSimpleName());
            }
        }
    }

    /** The test of a sentence that names a boundary, under the number of its promise. */
    static void edge(int promise, String sentence, Runnable test) {
        about = "promise " + promise + ", \"" + sentence + "\": ";
        due("standing in the document", Document.says(promise, sentence), true);
        try {
            test.run();
        } catch (RuntimeException e) {
            wrong++;
            System.out.println(about + "ended by " + e + " at " + e.getStackTrace()[0]);
        }
        about = "";
        edges[promise]++;
    }

    static void dueEdges() {
        int all = 0;
        for (int promise = 1; promise < edges.length; promise++) {
            due("promise " + promise + " has an edge", edges[promise] > 0, true);
            all += edges[promise];
        }
        System.out.println(all + " edges");
    }

    static void dueIndex(String what, Call call) {
        dueThrow(what, IndexOutOfBoundsException.class, call);
    }

    static void dueArgument(String what, Call call) {
        dueThrow(what, IllegalArgumentException.class, call);
    }

    static void dueElement(String what, Call call) {
        dueThrow(what, java.util.NoSuchElementException.class, call);
    }

    static void dueState(String what, Call call) {
        dueThrow(what, IllegalStateException.class, call);
    }

    /** The numbers of the feeds that a text needs, five of each. */
    static int[] numbers(String text) {
        int feeds = (text.length() + 19) / 20;
        int[] numbers = new int[feeds * 5];
        for (int i = 0; i < text.length(); i++) {
            numbers[i / 4] |= text.charAt(i) << 8 * (3 - i % 4);
        }
        return numbers;
    }

    static void tape(RepairTalk talk, String text) {
        int[] n = numbers(text);
        talk.end(0);
        for (int i = 0; i < n.length; i += 5) {
            talk.feed(n[i], n[i + 1], n[i + 2], n[i + 3], n[i + 4]);
        }
        due("end of " + text, talk.end(text.length()), true);
    }

    /** The text is wrong at that byte, and is off the tape. */
    static void dueWrong(RepairTalk talk, String text, int fault) {
        tape(talk, text);
        dueArgument("group of '" + text + "'", talk::group);
        due("fault of '" + text + "'", talk.fault(), fault);
        due("the tape behind '" + text + "'", talk.end(1), false);
    }

    static int tell(RepairTalk talk, String text) {
        tape(talk, text);
        return talk.group();
    }

    static RepairTalk group(String text) {
        RepairTalk talk = new RepairTalk();
        due("group of " + text, tell(talk, text), 1);
        return talk;
    }

    static void finish() {
        System.out.println(checks + " answers, " + wrong + " not as due");
        if (wrong != 0 || checks == 0) {
            System.exit(1);
        }
    }
}

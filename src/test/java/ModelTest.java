import java.util.Random;

/** Long runs of calls drawn by fixed seeds, on RepairTalk and on the Model: all answers and throws must be alike. */
public final class ModelTest {
    private static final int RUNS = 400;
    private static final int CALLS = 400;
    private static final int MOST_TOLD = 5;

    private final Random random;
    private final int run;
    private final RepairTalk talk = new RepairTalk();
    private final Model model = new Model();
    private final StringBuilder calls = new StringBuilder();
    private boolean differs = false;

    private ModelTest(int run) {
        this.run = run;
        this.random = new Random(run);
    }

    interface Call {
        Object answer();
    }

    private static String told(Call call) {
        try {
            return String.valueOf(call.answer());
        } catch (RuntimeException e) {
            return "throws." + e.getClass().getSimpleName();
        }
    }

    private void same(String name, Call ours, Call theirs) {
        String got = told(ours);
        String want = told(theirs);
        calls.append(name).append(" = ").append(want).append('\n');
        if (!got.equals(want)) {
            differs = true;
            System.out.println("run " + run + ": " + name + " answered " + got + ", the model " + want);
        }
    }

    private int upTo(int n) {
        return random.nextInt(n + 1);
    }

    private int node() {
        int n = model.now.members.size();
        return random.nextInt(40) == 0 || n == 0 ? upTo(9) - 2 : random.nextInt(n);
    }

    private int packet() {
        int n = model.now.next;
        return random.nextInt(20) == 0 || n == 0 ? upTo(14) - 1 : random.nextInt(n);
    }

    private int edge() {
        int n = model.now.edges.size();
        return random.nextInt(40) == 0 || n == 0 ? upTo(13) - 2 : random.nextInt(n);
    }

    private String blanks() {
        return random.nextInt(12) == 0 ? " ".repeat(1 + upTo(2)) : "";
    }

    private String number(int least, int most) {
        int kind = random.nextInt(150);
        int inside = least + upTo(Math.max(0, most - least));
        int number = kind == 0 ? most + 1 : kind == 1 ? 1000 + upTo(20) : inside;
        return blanks() + " " + blanks() + (kind == 2 ? "0" : "") + number;
    }

    private String line() {
        int n = model.now.members.size();
        switch (random.nextInt(10)) {
            case 0: return "node" + (random.nextInt(8) == 0 ? " down" : "");
            case 1:
            case 2:
            case 3:
                return "link" + number(0, n - 1) + number(0, n - 1) + " delay" + number(1, random.nextBoolean() ? 2 : 9)
                    + " loss" + number(0, random.nextBoolean() ? 0 : 100);
            case 4: return "source" + number(0, n - 1);
            case 5: return "request" + number(0, 32) + number(0, 32);
            case 6: return "repair" + number(0, 32) + number(0, 32);
            case 7: return "scope" + number(1, 5);
            case 8: return "session" + number(0, 20);
            default: return "rate" + number(0, 20);
        }
    }

    private String text() {
        StringBuilder text = new StringBuilder(blanks());
        int lines = random.nextInt(60) == 0 ? 15 : upTo(3);
        for (int i = 0; i < lines; i++) {
            text.append(i > 0 ? blanks() + ";" + blanks() : "").append(line()).append(blanks());
        }
        if (random.nextInt(12) == 0 && text.length() > 0) {
            int at = random.nextInt(text.length());
            String odd = "; a9A\u00e9\t1";
            text.replace(at, at + upTo(1), String.valueOf(odd.charAt(random.nextInt(odd.length()))));
        }
        return text.toString();
    }

    /** Most runs begin with a group that holds together. */
    private String firstText() {
        StringBuilder text = new StringBuilder("node");
        int n = run % 8 == 3 ? 6 : 1 + upTo(5);
        for (int i = 1; i < n; i++) {
            text.append(";node");
        }
        for (int i = 1; i < n; i++) {
            int delay = 1 + upTo(random.nextBoolean() && run % 8 != 3 ? 2 : 8);
            int loss = random.nextInt(3) == 0 ? upTo(100) : upTo(30);
            text.append(";link ").append(random.nextInt(i)).append(' ').append(i);
            text.append(" delay ").append(delay).append(" loss ").append(loss);
        }
        return text.toString();
    }

    private String secondText() {
        // Some runs talk so much that the messages on their way are too many.
        StringBuilder text = new StringBuilder("session ").append(run % 8 == 3 ? 1 : upTo(20));
        text.append("; rate ").append(upTo(20));
        if (random.nextBoolean()) {
            text.append("; request ").append(upTo(12)).append(' ').append(upTo(12));
        }
        if (random.nextBoolean()) {
            text.append("; repair ").append(upTo(12)).append(' ').append(upTo(12));
        }
        if (random.nextBoolean()) {
            text.append("; scope ").append(1 + upTo(4));
        }
        int n = model.now.members.size();
        for (int i = 0; i < 3 && n > 1; i++) {
            int a = random.nextInt(n);
            int b = random.nextInt(n);
            if (a != b && model.now.edge(a, b) == null && text.indexOf("link") < 0) {
                text.append("; link ").append(a).append(' ').append(b).append(" delay ").append(1 + upTo(8));
                text.append(" loss ").append(upTo(40));
            }
        }
        return text.toString();
    }

    private void feed(int a, int b, int c, int d, int e) {
        same("feed(" + a + ", " + b + ", " + c + ", " + d + ", " + e + ")",
            () -> talk.feed(a, b, c, d, e), () -> model.feed(a, b, c, d, e));
    }

    private void end(int n) {
        same("end(" + n + ")", () -> talk.end(n), () -> model.end(n));
    }

    private void tell(String text) {
        end(0);
        int[] n = Check.numbers(text);
        for (int i = 0; i < n.length; i += 5) {
            feed(n[i], n[i + 1], n[i + 2], n[i + 3], n[i + 4]);
        }
        end(text.length());
        same("group() of '" + text + "'", talk::group, model::group);
        same("fault()", talk::fault, model::fault);
    }

    private void ticks(int n) {
        same("ticks(" + n + ")", () -> talk.ticks(n), () -> model.ticks(n));
    }

    private void change() {
        int i = node();
        int p = packet();
        int l = edge();
        boolean is = random.nextBoolean();
        switch (random.nextInt(13)) {
            case 0:
            case 1:
            case 2:
                same("send()", talk::send, model::send);
                break;
            case 3:
                same("wake(" + i + ", " + is + ")", () -> talk.wake(i, is), () -> model.wake(i, is));
                break;
            case 4:
                same("cut(" + l + ", " + is + ")", () -> talk.cut(l, is), () -> model.cut(l, is));
                break;
            case 5:
                int loss = random.nextInt(20) == 0 ? 101 - 102 * upTo(1) : upTo(100);
                same("loss(" + l + ", " + loss + ")", () -> talk.loss(l, loss), () -> model.loss(l, loss));
                break;
            case 6:
            case 7:
                same("give(" + i + ", " + p + ", " + is + ")", () -> talk.give(i, p, is), () -> model.give(i, p, is));
                break;
            case 8:
                int seed = random.nextInt();
                same("seed(" + seed + ")", () -> talk.seed(seed), () -> model.seed(seed));
                break;
            case 9:
                if (random.nextInt(4) == 0) {
                    talk.image();
                    model.image();
                    calls.append("image()\n");
                } else if (random.nextInt(6) == 0) {
                    same("back()", talk::back, model::back);
                }
                break;
            case 10:
                tell(text());
                break;
            default:
                ticks(random.nextInt(30) == 0 ? 61 * upTo(1) : 1 + upTo(random.nextInt(10) == 0 ? 59 : 6));
                break;
        }
    }

    private void ask() {
        int i = node();
        int j = node();
        int p = packet();
        boolean is = random.nextBoolean();
        boolean late = random.nextBoolean();
        int scope = random.nextInt(30) == 0 ? 6 - 7 * upTo(1) : upTo(5);
        switch (random.nextInt(9)) {
            case 0: {
                int n = random.nextInt(30) == 0 ? 121 - 122 * upTo(1) : upTo(random.nextInt(8) == 0 ? 120 : 25);
                same("talk(" + n + ", " + late + ", " + is + ")", () -> talk.talk(n, late, is),
                    () -> model.talk(n, late, is));
                break;
            }
            case 1: {
                int n = random.nextInt(30) == 0 ? 21 - 22 * upTo(1) : upTo(20);
                if (random.nextInt(4) == 0) {
                    same("best(" + n + ", " + late + ")", () -> talk.best(n, late), () -> model.best(n, late));
                }
                break;
            }
            case 2:
                same("whole(" + late + ")", () -> talk.whole(late), () -> model.whole(late));
                break;
            case 3:
                same("guard(" + i + ", " + p + ")", () -> talk.guard(i, p), () -> model.guard(i, p));
                break;
            case 4:
                same("spread(" + scope + ")", () -> talk.spread(scope), () -> model.spread(scope));
                break;
            case 5:
                same("center()", talk::center, model::center);
                same("parts()", talk::parts, model::parts);
                break;
            case 6:
                same("reach(" + i + ", " + scope + ")", () -> talk.reach(i, scope), () -> model.reach(i, scope));
                same("crossed(" + i + ", " + scope + ")", () -> talk.crossed(i, scope), () -> model.crossed(i, scope));
                break;
            case 7:
                same("near(" + i + ", " + p + ")", () -> talk.near(i, p), () -> model.near(i, p));
                same("far(" + i + ", " + p + ")", () -> talk.far(i, p), () -> model.far(i, p));
                same("window(" + i + ", " + p + ", " + late + ")", () -> talk.window(i, p, late),
                    () -> model.window(i, p, late));
                break;
            default:
                pairs(i, j);
                break;
        }
    }

    private void pairs(int i, int j) {
        same("way(" + i + ", " + j + ", false)", () -> talk.way(i, j, false), () -> model.way(i, j, false));
        same("way(" + i + ", " + j + ", true)", () -> talk.way(i, j, true), () -> model.way(i, j, true));
        same("above(" + i + ", " + j + ")", () -> talk.above(i, j), () -> model.above(i, j));
        same("est(" + i + ", " + j + ")", () -> talk.est(i, j), () -> model.est(i, j));
        for (int k = -1; k < 7; k++) {
            int n = k;
            same("route(" + i + ", " + j + ", " + n + ")", () -> talk.route(i, j, n), () -> model.route(i, j, n));
        }
    }

    /** What can be seen at a glance. */
    private void look() {
        for (int what = -1; what < 18; what++) {
            int w = what;
            same("count(" + w + ")", () -> talk.count(w), () -> model.count(w));
        }
        for (int i = 0; i < model.now.members.size(); i++) {
            lookAtNode(i);
        }
        for (int i = 0; i < model.now.edges.size(); i++) {
            int l = i;
            for (int what = 0; what < 6; what++) {
                int w = what;
                same("link(" + l + ", " + w + ")", () -> talk.link(l, w), () -> model.link(l, w));
            }
        }
        for (int k = 0; k <= model.now.notes.size(); k++) {
            int m = k;
            for (int what = -1; what < 7; what++) {
                int w = what;
                same("flight(" + m + ", " + w + ")", () -> talk.flight(m, w), () -> model.flight(m, w));
            }
        }
        for (int k = -1; k <= 60; k++) {
            int ago = k;
            for (int what = -1; what < 5; what++) {
                int w = what;
                same("log(" + ago + ", " + w + ")", () -> talk.log(ago, w), () -> model.log(ago, w));
            }
        }
    }

    private void lookAtNode(int i) {
        for (int what = -1; what < 12; what++) {
            int w = what;
            same("node(" + i + ", " + w + ")", () -> talk.node(i, w), () -> model.node(i, w));
        }
        same("blind(" + i + ")", () -> talk.blind(i), () -> model.blind(i));
        for (int j = 0; j < model.now.members.size(); j++) {
            pairs(i, j);
        }
        for (int packet = -1; packet <= Math.min(12, model.now.next + 1); packet++) {
            int p = packet;
            for (int what = -1; what < 9; what++) {
                int w = what;
                same("timer(" + i + ", " + p + ", " + w + ")", () -> talk.timer(i, p, w), () -> model.timer(i, p, w));
            }
            for (int k = -1; k < 7; k++) {
                int n = k;
                same("gap(" + i + ", " + p + ", " + n + ")", () -> talk.gap(i, p, n), () -> model.gap(i, p, n));
                same("giver(" + i + ", " + p + ", " + n + ")", () -> talk.giver(i, p, n), () -> model.giver(i, p, n));
            }
            same("when(" + i + ", " + p + ")", () -> talk.when(i, p), () -> model.when(i, p));
            same("near(" + i + ", " + p + ")", () -> talk.near(i, p), () -> model.near(i, p));
            same("far(" + i + ", " + p + ")", () -> talk.far(i, p), () -> model.far(i, p));
            same("first(" + p + ")", () -> talk.first(p), () -> model.first(p));
            same("holders(" + p + ")", () -> talk.holders(p), () -> model.holders(p));
        }
    }

    /** Whether all was alike. */
    private boolean holds() {
        if (run % 8 != 0) {
            tell(firstText());
            tell(secondText());
        }
        for (int i = 0; i < CALLS && !differs; i++) {
            if (random.nextInt(3) > 0) {
                change();
            } else {
                ask();
            }
            if (i % 40 == 39) {
                look();
            }
        }
        return !differs;
    }

    public static void main(String[] args) {
        int runs = args.length > 0 ? Integer.parseInt(args[0]) : RUNS;
        int wrong = 0;
        for (int run = 0; run < runs && wrong < MOST_TOLD; run++) {
            ModelTest test = new ModelTest(run);
            if (!test.holds()) {
                wrong++;
                String calls = test.calls.toString();
                System.out.println(calls.substring(Math.max(0, calls.length() - 1500)));
            }
        }
        System.out.println(runs + " runs, " + wrong + " unlike the model");
        if (wrong != 0) {
            System.exit(1);
        }
    }
}

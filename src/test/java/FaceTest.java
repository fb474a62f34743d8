import java.io.IOException;
import java.lang.reflect.Constructor;
import java.lang.reflect.Field;
import java.lang.reflect.Method;
import java.lang.reflect.Modifier;
import java.nio.file.Files;
import java.nio.file.Path;
import java.util.TreeSet;

/** Promise 1 and the public face: all that the document prints, and nothing else that can be seen from outside. */
public final class FaceTest {
    private static final String[] METHODS = {
        "feed int int int int int int", "end boolean int", "group int", "fault int", "node int int int",
        "est int int int", "timer int int int int", "gap int int int int", "link int int int", "flight int int int",
        "ticks int int", "send int", "wake boolean int boolean", "cut boolean int boolean", "loss int int int",
        "give boolean int int boolean", "way int int int boolean", "above int int int", "window int int int boolean",
        "near int int int", "reach int int int", "far int int int", "whole int boolean",
        "talk int int boolean boolean", "parts int", "giver int int int int", "when int int int",
        "route int int int int", "crossed int int int", "center int", "first int int", "blind int int",
        "guard int int int", "best int int boolean", "spread int int", "holders int int", "log int int int",
        "seed int int", "image void", "back boolean", "count int int"};

    private static final String[] NOT_IN_THE_PROGRAM = {
        "catch", "try", "finally", "synchronized", "assert", "->", "::", "Exact(", "System.out", "package ",
        "System.nanoTime", "System.currentTimeMillis", "Random"};

    private static String told(Method method) {
        StringBuilder text = new StringBuilder(method.getName()).append(' ').append(method.getReturnType().getName());
        for (Class<?> type : method.getParameterTypes()) {
            text.append(' ').append(type.getName());
        }
        return text.toString();
    }

    private static void face() {
        TreeSet<String> wanted = new TreeSet<>(java.util.List.of(METHODS));
        TreeSet<String> names = new TreeSet<>();
        for (String method : METHODS) {
            names.add(method.split(" ")[0]);
        }
        for (Method method : RepairTalk.class.getDeclaredMethods()) {
            String name = told(method);
            if (Modifier.isPrivate(method.getModifiers())) {
                Check.due("private " + name + " bears a public name", names.contains(method.getName()), false);
            } else {
                Check.due("public " + name, wanted.remove(name) && Modifier.isPublic(method.getModifiers()), true);
            }
        }
        Check.due("methods that are missing: " + wanted, wanted.size(), 0);
        for (Field field : RepairTalk.class.getDeclaredFields()) {
            boolean isNone = field.getName().equals("NONE");
            Check.due("field " + field.getName(), Modifier.isPrivate(field.getModifiers()), !isNone);
        }
        Constructor<?>[] constructors = RepairTalk.class.getDeclaredConstructors();
        Check.due("constructors", constructors.length, 1);
        Check.due("it is final", Modifier.isFinal(RepairTalk.class.getModifiers()), true);
        Check.due("NONE", RepairTalk.NONE, -1);
    }

    private static void program() throws IOException {
        String text = Files.readString(Path.of("src/main/java/RepairTalk.java"));
        String code = text.replaceAll("(?s)/\\*.*?\\*/", "").replaceAll("//.*", "");
        for (String word : NOT_IN_THE_PROGRAM) {
            String begin = Character.isLetter(word.charAt(0)) ? "(?s).*\\b" : "(?s).*";
            String pattern = begin + "\\Q" + word + "\\E.*";
            Check.due("'" + word + "' in the program", code.matches(pattern), false);
        }
    }

    private static void newObject() {
        RepairTalk talk = new RepairTalk();
        long[] want = {0, 0, 0, 0, 0, 5, 0, 0, 8, 8, 4, 4, 0, 0, 0, 0, 0, -1};
        for (int what = 0; what < want.length; what++) {
            Check.due("count(" + what + ") of a new object", talk.count(what), want[what]);
        }
        Check.due("fault() of a new object", talk.fault(), -1);
        Check.due("back() of a new object", talk.back(), false);
        Check.due("end(0) of a new object", talk.end(0), true);
        Check.due("end(1) of a new object", talk.end(1), false);
        Check.due("seed of a new object", talk.seed(7), 1);
        Check.due("whole of a new object", talk.whole(false), 0);
        Check.due("center of a new object", talk.center(), -1);
        Check.due("spread of a new object", talk.spread(5), 0);
        Check.due("ticks of a new object", talk.ticks(60), 0);
        Check.due("tick of a new object", talk.count(14), 60);
        Check.dueState("send of a new object", talk::send);
        Check.dueIndex("node of a new object", () -> talk.node(0, 0));
    }

    public static void main(String[] args) throws IOException {
        face();
        program();
        newObject();
        Check.finish();
    }
}

import java.lang.reflect.Constructor;
import java.lang.reflect.Field;
import java.lang.reflect.Method;
import java.lang.reflect.Modifier;
import java.util.ArrayList;
import java.util.Arrays;
import java.util.Collections;
import java.util.List;

/** The public face: the class's members that are not private are those that the document tells, and no other. */
final class FaceSentences {
    private static final String METHODS = "int feed(int a, int b, int c, int d, int e); int end(int n); int board();"
            + " int fault(int what); int task(int task, int what); int node(int task, int node, int what);"
            + " int watcher(int watcher); int injection(int injection, int what); int cost(int task, int what);"
            + " int ways(int task); int response(int task); int least(int task, int what); int room(int task);"
            + " int orders(); int order(int i); int path(int task, int job, int i);"
            + " int answer(int task, int job, int question); int alike(int task, int question); int lawful(); int load();"
            + " int had(int tick); int idle(int tick); int kicks(int task, int tick); int kicked(int task, int tick);"
            + " int gap(int task, int k); int jobs(int task, int tick); int at(int task, int tick);"
            + " int question(int task, int tick); int start(int task, int tick); int memory(int task, int tick);"
            + " int health(int task, int tick); int tenths(int task, int tick); int margin(int task, int tick);"
            + " long mean(int task, int tick); int faults(int tick); int record(int k, int what); int ledger(int which);"
            + " int kinds(int kind); int levels(int level, int tick); int halts(); int sleeps(int watcher, int tick);"
            + " int caught(int injection); int without(int injection); int blame(); int with(int task, int a, int b);"
            + " int tight(int task); int loose(int task); int longest(int task, int kind); int silent(int task, int kind);"
            + " int inject(int kind, int who, int j, int k, int m); int undo(); int anew(); int count(int what);"
            + " int image(int k); int back(int k);";

    private final Sentences s;

    FaceSentences(Sentences s) {
        this.s = s;
    }

    void run() {
        s.says("The public face", "public final class WatchStack { public static final int NONE = -1; public WatchStack(); public "
                + METHODS.replace("; ", "; public ") + " }");
        s.due("NONE", WatchStack.NONE, -1);
        s.due("public and final", WatchStack.class.getModifiers(), Modifier.PUBLIC | Modifier.FINAL);
        Constructor<?>[] constructors = WatchStack.class.getDeclaredConstructors();
        s.due("constructors", constructors.length, 1);
        s.due("its arguments", constructors[0].getParameterCount(), 0);
        s.due("it is public", constructors[0].getModifiers(), Modifier.PUBLIC);
        for (Field field : WatchStack.class.getDeclaredFields()) {
            int due = field.getName().equals("NONE") ? Modifier.PUBLIC : Modifier.PRIVATE;
            s.due("field " + field.getName(), field.getModifiers() & (Modifier.PUBLIC | Modifier.PROTECTED | Modifier.PRIVATE), due);
        }
        methods();
    }

    private void methods() {
        List<String> due = new ArrayList<>();
        for (String method : METHODS.split("; ?")) due.add(method.replaceAll("(int|long) \\w+(?=[,)])", "$1"));
        List<String> got = new ArrayList<>();
        for (Method method : WatchStack.class.getDeclaredMethods()) {
            if (Modifier.isPrivate(method.getModifiers()) || method.isSynthetic()) continue;
            String types = Arrays.toString(method.getParameterTypes());
            String told = method.getReturnType() + " " + method.getName() + "(" + types.substring(1, types.length() - 1) + ")";
            got.add(told);
            s.due("public " + told, method.getModifiers(), Modifier.PUBLIC);
            s.due("in the document: " + told, due.contains(told) ? 1 : 0, 1);
        }
        Collections.sort(due);
        Collections.sort(got);
        s.due("all of " + due + ": " + got, due.equals(got) ? 1 : 0, 1);
    }
}

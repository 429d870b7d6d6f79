import java.lang.reflect.Constructor;
import java.lang.reflect.Field;
import java.lang.reflect.Method;
import java.lang.reflect.Modifier;
import java.util.Set;
import java.util.TreeSet;

/** The public face, and promise 1: a new object. */
public final class FaceTest {
    public static void main(String[] args) {
        face();
        newObject();
        Check.end();
    }

    private static void face() {
        Set<String> due = new TreeSet<>(Set.of(
                "int feed(int,long)", "int spoil(int,int)", "long tape(int)", "int drop(int,int)",
                "void seal(int,int)", "int take()", "int told(int)", "int programme(int,int)",
                "int stream(int,int)", "long now(int)", "long order(int,int,int)", "long piece(int,int)",
                "long clock(int)", "int plan(int,int)", "int addStream(int,int,int)", "void forget()",
                "int writeTables(int)", "int writePiece(int,long,int,int,boolean)",
                "int writeOrder(int,int,int,long,long)"));
        Set<String> got = new TreeSet<>();
        for (Method m : StreamSplitter.class.getDeclaredMethods()) {
            if (!Modifier.isPrivate(m.getModifiers()) && !m.isSynthetic()) {
                StringBuilder types = new StringBuilder();
                for (Class<?> type : m.getParameterTypes()) {
                    types.append(types.length() == 0 ? "" : ",").append(type.getName());
                }
                got.add(m.getReturnType().getName() + " " + m.getName() + "(" + types + ")");
                Check.due(m.getName() + " is public", Modifier.isPublic(m.getModifiers()) ? 1 : 0, 1);
                Check.due(m.getName() + " is static", Modifier.isStatic(m.getModifiers()) ? 1 : 0, 0);
            }
        }
        Check.due("the methods are " + got, got.equals(due) ? 1 : 0, 1);
        for (Field f : StreamSplitter.class.getDeclaredFields()) {
            boolean open = !Modifier.isPrivate(f.getModifiers()) && !f.isSynthetic();
            Check.due("open field " + f.getName(), open ? 1 : 0, f.getName().equals("NONE") ? 1 : 0);
        }
        int constructors = 0;
        for (Constructor<?> c : StreamSplitter.class.getDeclaredConstructors()) {
            constructors++;
            Check.due("the constructor is public", Modifier.isPublic(c.getModifiers()) ? 1 : 0, 1);
            Check.due("the constructor's parameters", c.getParameterCount(), 0);
        }
        Check.due("constructors", constructors, 1);
        Check.due("NONE", StreamSplitter.NONE, -1);
        int kind = StreamSplitter.class.getModifiers();
        Check.due("public and final", Modifier.isPublic(kind) && Modifier.isFinal(kind) ? 1 : 0, 1);
    }

    private static void newObject() {
        StreamSplitter x = new StreamSplitter();
        for (int what = 0; what <= 11; what++) {
            Check.due("new told " + what, x.told(what), what == 10 ? -1 : 0);
        }
        Check.due("new tape", x.tape(0), 0);
        Check.due("new piece", x.piece(0, 0), -1);
        Check.due("new clock 0", x.clock(0), -1);
        Check.due("new clock 8191", x.clock(8191), -1);
        Check.outside("new programme", () -> x.programme(0, 0));
        Check.outside("new draft", () -> x.addStream(0, 0, 0));
        Check.due("new take", x.take(), 0);
        Check.due("new plan", x.plan(1, 1), 1);
        StreamSplitter y = new StreamSplitter();
        Check.due("objects share nothing", y.plan(1, 1), 1);
    }
}

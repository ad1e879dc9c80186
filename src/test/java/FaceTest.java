import java.lang.reflect.Constructor;
import java.lang.reflect.Field;
import java.lang.reflect.Method;
import java.lang.reflect.Modifier;
import java.util.TreeSet;

/** The public face: every constant, constructor and method of the document, and nothing else. */
final class FaceTest {
    // with the kinds of exceptions that the face declares, in their order
    private static final String[] FACE = {
        "append(int) Argument State", "clearText()", "errorPosition()", "load() State", "about(int) Argument",
        "plot(int,int) Index Argument", "burial(int,int) Index Argument", "family(int,int) Index Argument",
        "waiting(int) Argument", "line(int,int) Index Argument", "depth(int) Index", "setting(int) Argument",
        "ask(int) Index State", "let(int,int) Index State", "bury(int) Index State",
        "renew(int,int) Index Argument State", "claim(int,int) Index State",
        "settle(int,boolean) Index State", "clear(int) Index State", "dig(int,int) Index Argument",
        "run(int) Argument", "set(int,int) Argument", "undo() State", "plotFor(int) Index",
        "clearFrom(int) Index", "coming(int,int) Argument", "whenFor(int) Index",
        "runScript(int,long) Argument", "simulate(long,int) Argument", "save(int) Index",
        "restore(int) Index State"};

    public static void main(String[] args) throws Exception {
        Due due = new Due();
        TreeSet<String> wanted = new TreeSet<>();
        for (String name : FACE) {
            wanted.add(name);
        }
        for (Method method : PlotLeases.class.getDeclaredMethods()) {
            if (Modifier.isPrivate(method.getModifiers()) || method.isSynthetic()) {
                continue;
            }
            StringBuilder name = new StringBuilder(method.getName()).append('(');
            for (Class<?> parameter : method.getParameterTypes()) {
                name.append(name.charAt(name.length() - 1) == '(' ? "" : ",").append(parameter.getName());
            }
            name.append(')');
            for (Class<?> kind : method.getExceptionTypes()) {
                name.append(' ').append(kind.getSimpleName().replaceAll("Illegal|OutOfBounds|Exception", ""));
            }
            String face = name.toString();
            due.is(face + " is of the face", 1, wanted.remove(face) ? 1 : 0);
            due.is(face + " is public, and not static", 1, method.getModifiers());
            due.is(face + " answers an int", 1, method.getReturnType() == int.class ? 1 : 0);
        }
        due.is("methods that lack: " + wanted, 0, wanted.size());
        for (Field field : PlotLeases.class.getDeclaredFields()) {
            if (!Modifier.isPrivate(field.getModifiers())) {
                due.is(field + " is NONE", 1, field.getName().equals("NONE") ? 1 : 0);
                due.is("modifiers of NONE", Modifier.PUBLIC | Modifier.STATIC | Modifier.FINAL, field.getModifiers());
                due.is("NONE is an int", 1, field.getType() == int.class ? 1 : 0);
            }
        }
        due.is("NONE", -1, PlotLeases.NONE);
        Constructor<?>[] constructors = PlotLeases.class.getDeclaredConstructors();
        due.is("constructors", 1, constructors.length);
        due.is("the constructor is public", 1, constructors[0].getModifiers());
        due.is("its parameters", 0, constructors[0].getParameterCount());
        due.is("the class is public and final", Modifier.PUBLIC | Modifier.FINAL, PlotLeases.class.getModifiers());
        due.end();
    }
}

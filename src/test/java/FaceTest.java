import java.lang.reflect.Constructor;
import java.lang.reflect.Field;
import java.lang.reflect.Method;
import java.lang.reflect.Modifier;
import java.util.TreeSet;

/** The public face: every constant, constructor and method of the document, and nothing else. */
final class FaceTest {
    private static final String[] FACE = {
        "append(int)", "clearText()", "errorPosition()", "load()", "about(int)", "plot(int,int)",
        "burial(int,int)", "family(int,int)", "waiting(int)", "line(int,int)", "depth(int)", "setting(int)",
        "ask(int)", "let(int,int)", "bury(int)", "renew(int,int)", "claim(int,int)", "settle(int,boolean)",
        "clear(int)", "dig(int,int)", "run(int)", "set(int,int)", "undo()", "plotFor(int)", "clearFrom(int)",
        "coming(int,int)", "whenFor(int)", "runScript(int,long)", "simulate(long,int)", "save(int)",
        "restore(int)"};

    public static void main(String[] args) throws Exception {
        Due due = new Due();
        TreeSet<String> wanted = new TreeSet<>();
        for (String name : FACE) {
            wanted.add(name);
        }
        for (Method method : PlotLeases.class.getDeclaredMethods()) {
            if (Modifier.isPrivate(method.getModifiers()) || method.isSynthetic()) {
                continue;
            }
            StringBuilder name = new StringBuilder(method.getName()).append('(');
            for (Class<?> parameter : method.getParameterTypes()) {
                name.append(name.charAt(name.length() - 1) == '(' ? "" : ",").append(parameter.getName());
            }
            String face = name.append(')').toString();
            due.is(face + " is of the face", 1, wanted.remove(face) ? 1 : 0);
            due.is(face + " is public, and not static", 1, method.getModifiers());
            due.is(face + " answers an int", 1, method.getReturnType() == int.class ? 1 : 0);
        }
        due.is("methods that lack: " + wanted, 0, wanted.size());
        for (Field field : PlotLeases.class.getDeclaredFields()) {
            if (!Modifier.isPrivate(field.getModifiers())) {
                due.is(field + " is NONE", 1, field.getName().equals("NONE") ? 1 : 0);
                due.is("modifiers of NONE", Modifier.PUBLIC | Modifier.STATIC | Modifier.FINAL, field.getModifiers());
                due.is("NONE is an int", 1, field.getType() == int.class ? 1 : 0);
            }
        }
        due.is("NONE", -1, PlotLeases.NONE);
        Constructor<?>[] constructors = PlotLeases.class.getDeclaredConstructors();
        due.is("constructors", 1, constructors.length);
        due.is("the constructor is public", 1, constructors[0].getModifiers());
        due.is("its parameters", 0, constructors[0].getParameterCount());
        due.is("the class is public and final", Modifier.PUBLIC | Modifier.FINAL, PlotLeases.class.getModifiers());
        due.end();
    }
}

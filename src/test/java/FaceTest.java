import java.lang.reflect.Constructor;
import java.lang.reflect.Field;
import java.lang.reflect.Method;
import java.lang.reflect.Modifier;
import java.util.Arrays;
import java.util.Set;
import java.util.TreeSet;

/** The public face, whole and nothing beside it, and what LANGUAGE.md says of members. */
public final class FaceTest {
    private static final Dues D = new Dues();
    private static final String[] FACE = {
        "int feed(int, int, int, int, int)", "int back(int)", "int read()", "int place()", "int role(int, int)", "int listener(int, int)",
        "int tells(int, int, int)", "boolean announce(int)", "boolean turn(int, boolean)", "boolean inform(int, int)", "int talk(int, int)",
        "int evenings(int)", "boolean undo()", "int tonight(int, int)", "int best(int)", "int plan(int, int)", "int star(int)",
        "int credit(int)", "int missing(int)", "int holders(int)", "int rarest(int)", "int series(int, int)", "int longOf(int, int)",
        "int callers(int)", "int sway(int)", "int circle(int, int)", "int doubles()", "int faith(int)", "int never(int)", "int apart(int)",
        "int unlike(int, int)", "int rumour(int)", "int talks(int)", "int then(int, int, int)", "int quietIn(int, int)",
        "int sure(int, int, int, int)", "int tellFact(int, boolean)", "int tellDone(int, boolean)", "int forget()", "int who(int, int)",
        "int ask(int)", "boolean hold(int)", "boolean restore(int)", "int count(int)"};

    public static void main(String[] args) {
        Class<?> face = VoiceTonight.class;
        D.due("NONE", VoiceTonight.NONE, -1);
        D.due("public and final", Modifier.isPublic(face.getModifiers()) && Modifier.isFinal(face.getModifiers()), true);
        D.due("constructors", Arrays.stream(face.getConstructors()).filter(c -> c.getParameterCount() == 0).count(), 1);
        D.due("all constructors", face.getDeclaredConstructors().length, 1);
        methods(face);
        fields(face);
        D.due("classes, twelve at most", face.getDeclaredClasses().length <= 12, true);
        for (Class<?> inside : face.getDeclaredClasses()) {
            D.due(inside.getName() + " is static", Modifier.isStatic(inside.getModifiers()), true);
            D.due(inside.getName() + " is not public", Modifier.isPublic(inside.getModifiers()), false);
            membersInside(inside);
        }
        D.end();
    }

    private static void methods(Class<?> face) {
        Set<String> due = new TreeSet<>(Arrays.asList(FACE));
        Set<String> got = new TreeSet<>();
        for (Method m : face.getDeclaredMethods()) {
            String types = Arrays.toString(Arrays.stream(m.getParameterTypes()).map(Class::getSimpleName).toArray());
            String shown = m.getReturnType() + " " + m.getName() + "(" + types.substring(1, types.length() - 1) + ")";
            if (Modifier.isPublic(m.getModifiers())) {
                got.add(shown);
            } else {
                D.due(shown + " is private", Modifier.isPrivate(m.getModifiers()), true);
                D.due(shown + " has a name of its own", isNameOfFace(m.getName()), false);
            }
            D.due(shown + " has seven parameters at most", m.getParameterCount() <= 7, true);
        }
        D.due("the public methods are the document's: " + got, got.equals(due), true);
    }

    private static boolean isNameOfFace(String name) {
        return Arrays.stream(FACE).anyMatch(f -> f.substring(f.indexOf(' ') + 1, f.indexOf('(')).equals(name));
    }

    private static void fields(Class<?> face) {
        int own = 0;
        for (Field f : face.getDeclaredFields()) {
            boolean isNone = f.getName().equals("NONE");
            D.due(f.getName() + " is private, but for NONE", Modifier.isPrivate(f.getModifiers()), !isNone);
            own += staticIsFinal(f) ? 0 : 1;
        }
        D.due("twenty fields at most", own <= 20, true);
    }

    private static boolean staticIsFinal(Field f) {
        boolean isStatic = Modifier.isStatic(f.getModifiers());
        D.due(f + ": static ones are final", !isStatic || Modifier.isFinal(f.getModifiers()), true);
        return isStatic;
    }

    private static void membersInside(Class<?> inside) {
        int own = 0;
        for (Field f : inside.getDeclaredFields()) {
            own += staticIsFinal(f) ? 0 : 1;
        }
        D.due(inside.getName() + " has twenty fields at most", own <= 20, true);
        for (Method m : inside.getDeclaredMethods()) {
            D.due(m + " has seven parameters at most", m.getParameterCount() <= 7, true);
            D.due(m + " has a name of its own", isNameOfFace(m.getName()), false);
        }
        for (Constructor<?> c : inside.getDeclaredConstructors()) {
            D.due(c + " has seven parameters at most", c.getParameterCount() <= 7, true);
        }
    }
}

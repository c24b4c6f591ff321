import java.lang.reflect.Constructor;
import java.lang.reflect.Field;
import java.lang.reflect.Method;
import java.lang.reflect.Modifier;
import java.util.Arrays;
import java.util.Set;
import java.util.TreeSet;

/** The public face is the document's, with nothing beside it (LANGUAGE.md, rule 1). */
public final class FaceTest {
    private static final String[] FACE = {
        "void clear()", "int thing(int,int)", "int move(int,int,int)", "int part(int,int)",
        "int open(int,boolean)", "int clears(int,boolean)", "int lit(int,boolean)",
        "int glows(int,boolean)", "int spread(int,int,boolean)", "int take(int,int)",
        "int drop(int,int)", "int put(int,int,int)", "int wear(int,int)", "int enter(int,int)",
        "int leave(int)", "int go(int,int)", "int lose(int)", "int touches(int,int)",
        "int sees(int,int)", "int light(int)", "int holder(int)", "int way(int)",
        "int child(int,int)", "int count(int)", "int walk(int,int)", "int root(int)",
        "int ring(int,int)", "int row(int,int)", "int told(int)",
    };

    public static void main(String[] args) {
        Due due = new Due();
        due.yes("final and public", Modifier.isFinal(ThingTrees.class.getModifiers())
                && Modifier.isPublic(ThingTrees.class.getModifiers()));
        Set<String> shown = new TreeSet<>();
        Set<String> shownNames = new TreeSet<>();
        for (Method m : ThingTrees.class.getDeclaredMethods()) {
            if (!Modifier.isPrivate(m.getModifiers())) {
                shown.add(written(m));
                shownNames.add(m.getName());
                due.yes(m + " is public", Modifier.isPublic(m.getModifiers()));
            }
        }
        Set<String> face = new TreeSet<>(Arrays.asList(FACE));
        due.yes("the methods are " + face + " and not " + shown, shown.equals(face));
        for (Method m : ThingTrees.class.getDeclaredMethods()) {
            due.yes(m + " has a name of its own",
                    !Modifier.isPrivate(m.getModifiers()) || !shownNames.contains(m.getName()));
        }
        for (Field f : ThingTrees.class.getDeclaredFields()) {
            due.yes(f + " is private", Modifier.isPrivate(f.getModifiers()));
        }
        Constructor<?>[] makers = ThingTrees.class.getDeclaredConstructors();
        due.yes("one public constructor", makers.length == 1
                && Modifier.isPublic(makers[0].getModifiers())
                && makers[0].getParameterCount() == 0);
        due.end();
    }

    private static String written(Method m) {
        StringBuilder text = new StringBuilder(m.getReturnType().getName());
        text.append(' ').append(m.getName()).append('(');
        String comma = "";
        for (Class<?> c : m.getParameterTypes()) {
            text.append(comma).append(c.getName());
            comma = ",";
        }
        return text.append(')').toString();
    }
}

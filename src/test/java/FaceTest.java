import java.lang.reflect.Constructor;
import java.lang.reflect.Field;
import java.lang.reflect.Method;
import java.lang.reflect.Modifier;
import java.util.Set;
import java.util.TreeSet;

/** The public face is the document's and no other. */
public final class FaceTest {
    private static final String[] FACE = {
        "int mill(int,int,int)", "boolean drop(int)", "boolean table(int,int,int,int)", "boolean more(int,int,int)",
        "boolean plate(int,int,int)", "int look(int,int)", "int rest(int,int)", "int cell(int,int,int)",
        "boolean turn(int,int)", "boolean leap(int,long)", "boolean back(int,long)", "int tail(int)",
        "long round(int)", "long order(int)", "long fixed(int,long)", "long rounds(int,long)",
        "int part(int,int,int)", "int split(int,int,int)", "boolean join(int,int,int,int)", "int all(int)",
        "int shortest(int,int)", "int line(int,int,int)", "boolean paint(int,int,int,int)",
        "int picture(int,int,int)", "boolean move(int,long)", "long seen(int)", "boolean begin(int)", "int tell(int)",
        "int least()", "int shown()", "int rule(int)", "int check(int,long)"};

    private FaceTest() {
    }

    public static void main(String[] args) {
        Class<?> face = RoundMill.class;
        Due.yes("public and final", Modifier.isPublic(face.getModifiers()) && Modifier.isFinal(face.getModifiers()));
        Set<String> due = new TreeSet<>(Set.of(FACE));
        Set<String> names = new TreeSet<>();
        for (Method m : face.getDeclaredMethods()) {
            if (!Modifier.isPrivate(m.getModifiers())) {
                Due.yes(m + " is public and no static one", m.getModifiers() == Modifier.PUBLIC);
                Due.yes(m + " is in the document", due.remove(told(m)));
                names.add(m.getName());
            }
        }
        Due.is("methods that are not there: " + due, due.size(), 0);
        for (Method m : face.getDeclaredMethods()) {
            Due.no(m + " bears a public name", Modifier.isPrivate(m.getModifiers()) && names.contains(m.getName()));
        }
        for (Constructor<?> c : face.getDeclaredConstructors()) {
            Due.yes("constructor " + c, Modifier.isPublic(c.getModifiers()) && c.getParameterCount() == 0);
        }
        for (Field f : face.getDeclaredFields()) {
            boolean none = f.getName().equals("NONE");
            Due.is("field " + f, !Modifier.isPrivate(f.getModifiers()), none);
            Due.yes("field " + f, !Modifier.isStatic(f.getModifiers()) || Modifier.isFinal(f.getModifiers()));
        }
        Due.is("NONE", RoundMill.NONE, -1);
        seeInside(face, names);
        Due.end();
    }

    private static void seeInside(Class<?> face, Set<String> names) {
        Due.yes("at most twelve classes", face.getDeclaredClasses().length < 12);
        for (Class<?> inside : face.getDeclaredClasses()) {
            int how = inside.getModifiers();
            Due.yes(inside + " is static", Modifier.isStatic(how));
            Due.no(inside + " is seen", Modifier.isPublic(how) || Modifier.isProtected(how));
            int fields = 0;
            for (Field f : inside.getDeclaredFields()) {
                boolean fixed = Modifier.isStatic(f.getModifiers());
                fields += fixed ? 0 : 1;
                Due.yes(f + " is final", !fixed || Modifier.isFinal(f.getModifiers()));
            }
            Due.yes(inside + " has at most twenty fields", fields <= 20);
            for (Method m : inside.getDeclaredMethods()) {
                Due.no(m + " bears a public name", names.contains(m.getName()));
                Due.yes(m + " takes at most seven", m.getParameterCount() <= 7);
            }
        }
    }

    private static String told(Method m) {
        StringBuilder text = new StringBuilder();
        text.append(m.getReturnType().getName()).append(' ').append(m.getName()).append('(');
        for (int i = 0; i < m.getParameterCount(); i++) {
            text.append(i > 0 ? "," : "").append(m.getParameterTypes()[i].getName());
        }
        return text.append(')').toString();
    }
}

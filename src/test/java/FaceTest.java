import java.lang.reflect.Constructor;
import java.lang.reflect.Field;
import java.lang.reflect.Method;
import java.lang.reflect.Modifier;
import java.util.Set;
import java.util.TreeSet;

/** The document's public face, and the rules of LANGUAGE.md that can be seen in the compiled class. */
public final class FaceTest {
    private static final Set<String> FACE = Set.of(
            "int gang(int)", "int boat(int,int)", "int spell(int,int,int)", "int feed(int,int,int,int,int)",
            "int end(int)", "int table()", "int stone(int,int)", "int send(int,int)", "int raise(int)",
            "boolean callOff(int)", "int pass(int)", "int about(int,int)", "int gangs(int,int)", "int plan()",
            "int planned(int,int)", "int tally(int,int,int,int)", "int isTrue(int)", "int quarrel()",
            "int quarrels(int)", "int count(int)");

    private static String face(Method m) {
        StringBuilder text = new StringBuilder(m.getReturnType().getName()).append(' ').append(m.getName()).append('(');
        for (Class<?> p : m.getParameterTypes()) {
            text.append(text.charAt(text.length() - 1) == '(' ? "" : ",").append(p.getName());
        }
        return text.append(')').toString();
    }

    public static void main(String[] args) {
        Checks c = new Checks();
        Class<?> type = StoneWorks.class;
        c.due("the class is public and final", Modifier.isPublic(type.getModifiers()) && Modifier.isFinal(type.getModifiers()), true);
        c.due("NONE", StoneWorks.NONE, -1);
        Set<String> seen = new TreeSet<>();
        Set<String> names = new TreeSet<>();
        for (Method m : type.getDeclaredMethods()) {
            if (!Modifier.isPrivate(m.getModifiers())) {
                seen.add(face(m));
                names.add(m.getName());
                c.due(m + " is public and no static one", Modifier.isPublic(m.getModifiers()) && !Modifier.isStatic(m.getModifiers()), true);
            }
        }
        c.due("the methods " + seen + " are the document's", seen.equals(FACE), true);
        for (Field f : type.getDeclaredFields()) {
            c.due(f + " is private, or NONE", Modifier.isPrivate(f.getModifiers()) || f.getName().equals("NONE"), true);
        }
        Constructor<?>[] makers = type.getDeclaredConstructors();
        c.due("constructors", makers.length, 1);
        c.due("the constructor is public, and wants nothing", Modifier.isPublic(makers[0].getModifiers()) && makers[0].getParameterCount() == 0, true);
        lookInside(c, type, names);
        c.finish();
    }

    private static void lookInside(Checks c, Class<?> type, Set<String> names) {
        Class<?>[] inside = type.getDeclaredClasses();
        c.due("at most twelve classes", inside.length + 1 <= 12, true);
        for (Class<?> k : inside) {
            c.due(k + " is static", Modifier.isStatic(k.getModifiers()), true);
            int fields = 0;
            for (Field f : k.getDeclaredFields()) {
                fields += Modifier.isStatic(f.getModifiers()) ? 0 : 1;
                c.due(f + " is final if static", !Modifier.isStatic(f.getModifiers()) || Modifier.isFinal(f.getModifiers()), true);
            }
            c.due(k + " has at most twenty fields", fields <= 20, true);
            for (Method m : k.getDeclaredMethods()) {
                c.due(m + " has a name of its own", names.contains(m.getName()), false);
                c.due(m + " takes at most seven", m.getParameterCount() <= 7, true);
            }
        }
    }
}

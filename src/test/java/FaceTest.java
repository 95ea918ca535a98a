import java.lang.reflect.Constructor;
import java.lang.reflect.Field;
import java.lang.reflect.Method;
import java.lang.reflect.Modifier;
import java.util.Set;
import java.util.TreeSet;

/** The class has the document's face, and nothing more that can be seen from outside. */
public final class FaceTest {
    private static final String FACE = "int along(int,int,int);int ask(int,int);boolean bridge(int);int bridges(int,int,int);"
        + "int bluff(int,int,int);int book(int,int);int choice(int,int,int,int);int days(int);boolean end(int);int fault(int);"
        + "int feed(int,int,int,int,int);int game(int);int gap(int);int goes(int,int);int holds(int,int);int hurry(int,int);"
        + "int ill(int,int);boolean image(boolean);boolean join(int);int link(int,int,int,int);int look(int);int many(int,int);"
        + "int money(int,int);int odds(int);int of(int,int);boolean paper(int);boolean pay(int,int,int);int phone(int,int);"
        + "int runs(int);boolean set(int,int,int);int share(int,int);int signs(int);int slowest();int soon(int);int split(int,int);"
        + "int state(int);int text(int);boolean undo();int wrote();";

    public static void main(String[] args) {
        Set<String> due = new TreeSet<>(Set.of(FACE.split(";")));
        Set<String> got = new TreeSet<>();
        Set<String> names = new TreeSet<>();
        for (Method m : TwelveChain.class.getDeclaredMethods()) {
            if (Modifier.isPublic(m.getModifiers()) && !Modifier.isStatic(m.getModifiers())) {
                StringBuilder s = new StringBuilder(m.getReturnType().getName()).append(' ').append(m.getName()).append('(');
                for (Class<?> type : m.getParameterTypes()) {
                    s.append(s.charAt(s.length() - 1) == '(' ? "" : ",").append(type.getName());
                }
                got.add(s.append(')').toString());
                names.add(m.getName());
            }
        }
        Due.so("the public methods: " + got, got.equals(due));
        Due.is("how many", got.size(), 39);
        others(TwelveChain.class, names);
        for (Class<?> inner : TwelveChain.class.getDeclaredClasses()) {
            Due.so(inner + " is static", Modifier.isStatic(inner.getModifiers()));
            Due.so(inner + " is not public", !Modifier.isPublic(inner.getModifiers()) && !Modifier.isProtected(inner.getModifiers()));
        }
        Due.so("public and final", TwelveChain.class.getModifiers() == (Modifier.PUBLIC | Modifier.FINAL));
        Due.so("no package", TwelveChain.class.getPackageName().isEmpty());
        Due.end("FaceTest");
    }

    private static void others(Class<?> type, Set<String> publicNames) {
        for (Method m : type.getDeclaredMethods()) {
            boolean seen = Modifier.isPublic(m.getModifiers()) && !Modifier.isStatic(m.getModifiers());
            Due.so(m + " is private", seen || Modifier.isPrivate(m.getModifiers()));
            Due.so(m + " bears no public one's name", seen || !publicNames.contains(m.getName()));
        }
        for (Field f : type.getDeclaredFields()) {
            Due.so(f + " is private", f.getName().equals("NONE") == Modifier.isPublic(f.getModifiers())
                && (f.getName().equals("NONE") || Modifier.isPrivate(f.getModifiers())));
            Due.so(f + " is no static that changes", !Modifier.isStatic(f.getModifiers()) || Modifier.isFinal(f.getModifiers()));
        }
        Constructor<?>[] made = type.getDeclaredConstructors();
        Due.so("one public constructor without arguments",
            made.length == 1 && Modifier.isPublic(made[0].getModifiers()) && made[0].getParameterCount() == 0);
    }
}

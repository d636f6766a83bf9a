import java.lang.reflect.Constructor;
import java.lang.reflect.Field;
import java.lang.reflect.Method;
import java.lang.reflect.Modifier;
import java.util.Arrays;
import java.util.TreeSet;
import java.util.Set;

/** The class has the document's face, and no other member that is not private. */
public final class FaceTest {
    private static final String FACE = """
        int feed(int)
        int valley()
        int thingOf(int, int)
        int place(int, int)
        int thing(int, int, int)
        int drops(int, int)
        int mends(int)
        int cuts(int)
        int changes(int, int)
        int back()
        int gets(int, int, int, int)
        int blow(int, int, int)
        int reaches(int, int)
        int breaks(int, int)
        int harm(int, int)
        int tap(int)
        int who(int)
        int whatKind(int, int, int, int)
        int worst(int, int)
        int bestCut(int, int)
        int order(int, int)
        int walk(int)
        int woman(int, int)
        int lasts(int)
        int left(int, int)
        long chance(int, int, int, int, int, int)
        int twins(int)
        int hum(int, int)
        int apart(int, int)
        int heaps()
        int codes(int, int)
        int secret(int, int, int)
        int tough(int)
        int centre(int, int)
        int bestMend(int, int)
        int bestFigure(int, int, int)
        int domino(int)
        int longest(int)
        int spared(int)
        int mutual(int)
        int row(int)
        int judge()
        int clear()
        int lots(int, int, int)
        int image()
        int restore()
        int count(int)
        """;

    private static int wrong = 0;

    private static void must(boolean so, String what) {
        if (!so) {
            wrong++;
            System.out.println("the face: " + what);
        }
    }

    private static String told(Method method) {
        StringBuilder text = new StringBuilder();
        for (Class<?> type : method.getParameterTypes()) {
            text.append(text.length() == 0 ? "" : ", ").append(type.getName());
        }
        return method.getReturnType().getName() + " " + method.getName() + "(" + text + ")";
    }

    private static void methods(Class<?> face) {
        Set<String> due = new TreeSet<>(Arrays.asList(FACE.strip().split("\n")));
        Set<String> names = new TreeSet<>();
        Set<String> got = new TreeSet<>();
        for (Method method : face.getDeclaredMethods()) {
            if (!Modifier.isPrivate(method.getModifiers())) {
                must(method.getModifiers() == Modifier.PUBLIC, told(method) + " is not as it is");
                got.add(told(method));
                names.add(method.getName());
            }
        }
        must(got.equals(due), "has " + got + ", due is " + due);
        for (Method method : face.getDeclaredMethods()) {
            must(!Modifier.isPrivate(method.getModifiers()) || !names.contains(method.getName()),
                "a private method bears the name " + method.getName());
        }
        for (Class<?> inside : face.getDeclaredClasses()) {
            for (Method method : inside.getDeclaredMethods()) {
                must(!names.contains(method.getName()),
                    inside.getName() + " bears the name " + method.getName());
            }
        }
    }

    public static void main(String[] args) {
        Class<?> face = RivetedSisters.class;
        must(face.getModifiers() == (Modifier.PUBLIC | Modifier.FINAL), "is public and final");
        must(face.getSuperclass() == Object.class && face.getInterfaces().length == 0,
            "stands under nothing");
        Constructor<?>[] constructors = face.getDeclaredConstructors();
        must(constructors.length == 1 && constructors[0].getParameterCount() == 0
            && Modifier.isPublic(constructors[0].getModifiers()), "one public constructor");
        for (Field field : face.getDeclaredFields()) {
            must(Modifier.isPrivate(field.getModifiers()), field.getName() + " is private");
        }
        for (Class<?> inside : face.getDeclaredClasses()) {
            must(Modifier.isStatic(inside.getModifiers()), inside.getName() + " is static");
            must(!Modifier.isPublic(inside.getModifiers())
                && !Modifier.isProtected(inside.getModifiers()), inside.getName() + " is within");
            int fields = 0;
            for (Field field : inside.getDeclaredFields()) {
                fields += Modifier.isStatic(field.getModifiers()) ? 0 : 1;
            }
            must(fields <= 20, inside.getName() + " has few fields");
        }
        must(face.getDeclaredClasses().length < 12, "at most twelve classes");
        methods(face);
        System.out.println(wrong == 0 ? "the face is as due" : wrong + " are not as due");
        if (wrong != 0) {
            System.exit(1);
        }
    }
}

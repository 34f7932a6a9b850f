import java.lang.reflect.Constructor;
import java.lang.reflect.Field;
import java.lang.reflect.Member;
import java.lang.reflect.Method;
import java.lang.reflect.Modifier;
import java.util.TreeSet;

/** The public face, and promise 1. */
public final class FaceTest {
    public static void main(String[] args) {
        constants();
        members();
        classesInside();
        newObject();
        objectsAreApart();
        Check.end();
    }

    private static void constants() {
        Check.due("BAD", ChunkWords.BAD, -1);
        Check.due("FULL", ChunkWords.FULL, -3);
    }

    private static void members() {
        TreeSet<String> seen = new TreeSet<>();
        for (Field f : ChunkWords.class.getDeclaredFields()) {
            add(seen, f, f.getType() + " " + f.getName());
        }
        for (Constructor<?> c : ChunkWords.class.getDeclaredConstructors()) {
            add(seen, c, "new " + parameters(c.getParameterTypes()));
        }
        for (Method m : ChunkWords.class.getDeclaredMethods()) {
            add(seen, m, m.getReturnType() + " " + m.getName() + parameters(m.getParameterTypes()));
        }
        TreeSet<String> want = new TreeSet<>();
        for (String one : new String[] {"int BAD", "int FULL", "new ()", "int type(long int )", "int cut()",
            "int place()", "int wrongLine()", "int words()", "int kind(int )", "int line(int )", "int begin(int )",
            "int length(int )", "int text(int )", "int texts()", "int size(int )", "int at(int int )", "int find()"}) {
            want.add(one);
        }
        Check.due("the members that are not private", seen.toString(), want.toString());
        Check.due("the class is public and final", ChunkWords.class.getModifiers(), Modifier.PUBLIC | Modifier.FINAL);
    }

    private static void classesInside() {
        TreeSet<String> face = new TreeSet<>();
        for (Method m : ChunkWords.class.getMethods()) {
            face.add(m.getName());
        }
        for (Class<?> one : ChunkWords.class.getDeclaredClasses()) {
            int how = one.getModifiers();
            Check.due(one + " is static", Modifier.isStatic(how) ? 1 : 0, 1);
            Check.due(one + " is seen outside", Modifier.isPublic(how) || Modifier.isProtected(how) ? 1 : 0, 0);
            for (Method m : one.getDeclaredMethods()) {
                Check.due(m + " bears a name of the face", face.contains(m.getName()) ? 1 : 0, 0);
            }
        }
    }

    private static void add(TreeSet<String> seen, Member member, String told) {
        if (!Modifier.isPrivate(member.getModifiers())) {
            seen.add(Modifier.isPublic(member.getModifiers()) ? told : "not public: " + told);
        }
    }

    private static String parameters(Class<?>[] types) {
        StringBuilder all = new StringBuilder("(");
        for (Class<?> one : types) {
            all.append(one).append(' ');
        }
        return all.append(')').toString();
    }

    private static void newObject() {
        ChunkWords x = new ChunkWords();
        Check.due("words() when new", x.words(), 0);
        Check.due("texts() when new", x.texts(), 0);
        Check.due("place() when new", x.place(), 0);
        Check.due("wrongLine() when new", x.wrongLine(), 1);
        Check.due("find() when new", x.find(), ChunkWords.BAD);
        Check.due("kind(0) when new", x.kind(0), ChunkWords.BAD);
        Check.due("line(0) when new", x.line(0), ChunkWords.BAD);
        Check.due("begin(0) when new", x.begin(0), ChunkWords.BAD);
        Check.due("length(0) when new", x.length(0), ChunkWords.BAD);
        Check.due("text(0) when new", x.text(0), ChunkWords.BAD);
        Check.due("size(0) when new", x.size(0), ChunkWords.BAD);
        Check.due("at(0, 0) when new", x.at(0, 0), ChunkWords.BAD);
        Check.due("cut() when new", x.cut(), 0);
        Check.due("place() of an empty tape", x.place(), 0);
        Check.due("wrongLine() of an empty tape", x.wrongLine(), 1);
        Check.due("type(..) when new", new ChunkWords().type(65, 1), 1);
    }

    private static void objectsAreApart() {
        ChunkWords x = Check.cutOf("one two");
        ChunkWords y = Check.typed("two");
        Check.due("words() of the other", y.words(), 0);
        Check.due("find() of the other", y.find(), ChunkWords.BAD);
        Check.due("words() of the one", x.words(), 2);
        Check.due("type of the one", x.type(65, 1), 1);
    }
}

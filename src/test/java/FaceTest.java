import java.lang.reflect.Constructor;
import java.lang.reflect.Field;
import java.lang.reflect.Member;
import java.lang.reflect.Method;
import java.lang.reflect.Modifier;
import java.util.Arrays;
import java.util.TreeSet;

/** The class has the document's face and no more (the document's face, rules 1 and 5 of LANGUAGE.md). */
public final class FaceTest {
    private static final String[] FACE = {
        "public static final int BatchBytes.NONE",
        "public BatchBytes()",
        "public int BatchBytes.feed(int,int,int,int,int) throws java.lang.IllegalStateException",
        "public int BatchBytes.trim(int) throws java.lang.IllegalArgumentException",
        "public int BatchBytes.spoil(int,int) throws java.lang.IllegalArgumentException",
        "public int BatchBytes.check()",
        "public int BatchBytes.record(int,long,int,long,int,int)"
            + " throws java.lang.IllegalArgumentException,java.lang.IllegalStateException",
        "public int BatchBytes.clear()",
        "public int BatchBytes.seal(long,int,int,long)"
            + " throws java.lang.IllegalArgumentException,java.lang.IllegalStateException",
        "public int BatchBytes.size()",
        "public int BatchBytes.byteAt(int) throws java.lang.IllegalArgumentException",
        "public int BatchBytes.fault(int) throws java.lang.IllegalArgumentException",
        "public long BatchBytes.head(int) throws java.lang.IllegalArgumentException",
        "public long BatchBytes.told(int,int) throws java.lang.IllegalArgumentException"
    };

    public static void main(String[] args) {
        Class<?> c = BatchBytes.class;
        TreeSet<String> seen = new TreeSet<>();
        TreeSet<String> publicNames = new TreeSet<>();
        TreeSet<String> privateNames = new TreeSet<>();
        for (Field f : c.getDeclaredFields()) {
            see(seen, f, f.toString());
        }
        for (Constructor<?> k : c.getDeclaredConstructors()) {
            see(seen, k, k.toString());
        }
        for (Method m : c.getDeclaredMethods()) {
            see(seen, m, m.toString());
            (Modifier.isPrivate(m.getModifiers()) ? privateNames : publicNames).add(m.getName());
        }
        Dues.due("the face", seen.toString(), new TreeSet<>(Arrays.asList(FACE)).toString());
        privateNames.retainAll(publicNames);
        Dues.due("private methods with a public one's name", privateNames.toString(), "[]");
        Dues.due("the class", Modifier.toString(c.getModifiers()), "public final");
        Dues.due("NONE", () -> BatchBytes.NONE, -1);
        for (Class<?> inside : c.getDeclaredClasses()) {
            seeInside(inside);
        }
        Dues.end();
    }

    private static void see(TreeSet<String> seen, Member member, String text) {
        if (!Modifier.isPrivate(member.getModifiers()) && !member.isSynthetic()) {
            seen.add(text);
        }
    }

    private static void seeInside(Class<?> inside) {
        int m = inside.getModifiers();
        boolean fits = Modifier.isStatic(m) && !Modifier.isPublic(m) && !Modifier.isProtected(m);
        Dues.due(inside + " is static and not public", () -> fits ? 1 : 0, 1);
    }
}

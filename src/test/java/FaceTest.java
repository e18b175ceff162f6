import java.lang.reflect.Constructor;
import java.lang.reflect.Field;
import java.lang.reflect.Member;
import java.lang.reflect.Method;
import java.lang.reflect.Modifier;
import java.util.Set;
import java.util.TreeSet;

/** The public face: every member of the document, and no other that can be seen. */
public final class FaceTest {
    private static final String[] FACE = {
        "public AntiDesk()",
        "public boolean AntiDesk.same(int,int) throws java.lang.IllegalArgumentException",
        "public char AntiDesk.output(int)",
        "public int AntiDesk.add(int,int,int,int,int) throws java.lang.IllegalArgumentException,"
            + "java.lang.IllegalStateException",
        "public int AntiDesk.derive(int,int) throws java.lang.IllegalArgumentException",
        "public int AntiDesk.erase()",
        "public int AntiDesk.integrate(int,int,int) throws java.lang.IllegalArgumentException,"
            + "java.lang.IllegalStateException",
        "public int AntiDesk.place()",
        "public int AntiDesk.read(int) throws java.lang.IllegalArgumentException",
        "public int AntiDesk.terms(int) throws java.lang.IllegalArgumentException",
        "public int AntiDesk.times(int,int,int) throws java.lang.IllegalArgumentException,"
            + "java.lang.IllegalStateException",
        "public int AntiDesk.type(int,int,int,int,int) throws java.lang.IllegalStateException",
        "public int AntiDesk.write(int) throws java.lang.IllegalArgumentException",
        "public long AntiDesk.term(int,int,int) throws java.lang.IllegalArgumentException",
        "public static final int AntiDesk.FULL",
        "public static final int AntiDesk.KIND",
        "public static final int AntiDesk.NONE",
        "public static final int AntiDesk.RANGE",
        "public static final int AntiDesk.SIGN",
    };

    private static boolean isSeen(Member member) {
        return !Modifier.isPrivate(member.getModifiers()) && !member.isSynthetic();
    }

    public static void main(String[] args) {
        Set<String> seen = new TreeSet<>();
        for (Constructor<?> member : AntiDesk.class.getDeclaredConstructors()) {
            if (isSeen(member)) {
                seen.add(member.toGenericString());
            }
        }
        for (Method member : AntiDesk.class.getDeclaredMethods()) {
            if (isSeen(member)) {
                seen.add(member.toGenericString());
            }
        }
        for (Field member : AntiDesk.class.getDeclaredFields()) {
            if (isSeen(member)) {
                seen.add(member.toGenericString());
            }
        }
        Check.equal("the face", seen, new TreeSet<>(Set.of(FACE)));
        Check.equal("the class", Modifier.toString(AntiDesk.class.getModifiers()), "public final");
        Check.equal("NONE", AntiDesk.NONE, -1);
        Check.equal("SIGN", AntiDesk.SIGN, -2);
        Check.equal("RANGE", AntiDesk.RANGE, -3);
        Check.equal("FULL", AntiDesk.FULL, -4);
        Check.equal("KIND", AntiDesk.KIND, -5);
        Check.finish();
    }
}

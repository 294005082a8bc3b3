import java.lang.reflect.AccessibleObject;
import java.lang.reflect.Constructor;
import java.lang.reflect.Field;
import java.lang.reflect.Member;
import java.lang.reflect.Method;
import java.lang.reflect.Modifier;
import java.util.List;
import java.util.TreeSet;

/** The public face: what the document writes down, and no other member that can be seen. */
public final class FaceTest {
    private static final String[] FACE = {
        "public static final int SourceTokens.NONE",
        "public SourceTokens()",
        "public boolean SourceTokens.feed(int,int,int,int,int)",
        "public boolean SourceTokens.end(int)",
        "public int SourceTokens.size()",
        "public int SourceTokens.scan()",
        "public int SourceTokens.count()",
        "public int SourceTokens.token(int,int) throws java.util.NoSuchElementException",
        "public int SourceTokens.byteOf(int,int) throws java.util.NoSuchElementException",
        "public long SourceTokens.number(int) throws java.util.NoSuchElementException",
        "public boolean SourceTokens.fits(int,int) throws java.util.NoSuchElementException",
        "public int SourceTokens.names()",
        "public int SourceTokens.firstOf(int)",
    };

    public static void main(String[] args) {
        theClass();
        itsMembers();
        noPrivateMethodHasAPublicName();
        noStaticFieldCanChange(SourceTokens.class);
        for (Class<?> inside : SourceTokens.class.getDeclaredClasses()) {
            Kit.due("whether " + inside.getName() + " is static", Modifier.isStatic(inside.getModifiers()), true);
            Kit.due("whether " + inside.getName() + " is public or protected", isPublicOrProtected(inside.getModifiers()), false);
            noStaticFieldCanChange(inside);
        }
        Kit.due("NONE", SourceTokens.NONE, -1);
        Kit.finish();
    }

    private static boolean isPublicOrProtected(int modifiers) {
        return Modifier.isPublic(modifiers) || Modifier.isProtected(modifiers);
    }

    private static void theClass() {
        int modifiers = SourceTokens.class.getModifiers();
        Kit.dueText("the class", Modifier.toString(modifiers), "public final");
        Kit.dueText("its package", SourceTokens.class.getPackageName(), "");
        Kit.dueText("the class above it", SourceTokens.class.getSuperclass().getName(), "java.lang.Object");
        Kit.due("its interfaces", SourceTokens.class.getInterfaces().length, 0);
    }

    private static void itsMembers() {
        TreeSet<String> seen = new TreeSet<>();
        for (Field field : SourceTokens.class.getDeclaredFields()) {
            addIfSeen(seen, field, field);
        }
        for (Constructor<?> constructor : SourceTokens.class.getDeclaredConstructors()) {
            addIfSeen(seen, constructor, constructor);
        }
        for (Method method : SourceTokens.class.getDeclaredMethods()) {
            addIfSeen(seen, method, method);
        }
        Kit.dueText("the members that can be seen", String.join("\n", seen), String.join("\n", new TreeSet<>(List.of(FACE))));
    }

    private static void addIfSeen(TreeSet<String> seen, Member member, AccessibleObject asText) {
        if (!Modifier.isPrivate(member.getModifiers())) {
            seen.add(asText.toString());
        }
    }

    private static void noPrivateMethodHasAPublicName() {
        for (Method method : SourceTokens.class.getDeclaredMethods()) {
            String call = "." + method.getName() + "(";
            boolean isInFace = String.join("\n", FACE).contains(call);
            Kit.due("whether " + method + " may bear its name", isInFace, !Modifier.isPrivate(method.getModifiers()));
        }
    }

    private static void noStaticFieldCanChange(Class<?> holder) {
        for (Field field : holder.getDeclaredFields()) {
            boolean canChange = Modifier.isStatic(field.getModifiers()) && !Modifier.isFinal(field.getModifiers());
            Kit.due("whether " + field + " can change", canChange, false);
        }
    }
}

import java.lang.reflect.Constructor;
import java.lang.reflect.Field;
import java.lang.reflect.Member;
import java.lang.reflect.Method;
import java.lang.reflect.Modifier;
import java.util.Set;
import java.util.TreeSet;

/** The public face: just the document's constants, constructor and methods, and rule 1 of LANGUAGE.md. */
public final class FaceTest {
    private static final Set<String> FACE = Set.of(
        "public static final int PostLedger.UNKNOWN",
        "public static final int PostLedger.OUTSIDE",
        "public static final int PostLedger.STATE",
        "public static final int PostLedger.ROOM",
        "public PostLedger()",
        "public int PostLedger.account(int,int)",
        "public int PostLedger.batch(long)",
        "public boolean PostLedger.row(int,int,long)",
        "public int PostLedger.post(int) throws java.lang.IllegalStateException",
        "public long PostLedger.balance(int,long)",
        "public int PostLedger.close(long)",
        "public int PostLedger.reverse(int)",
        "public int PostLedger.stock(int,int,long)",
        "public int PostLedger.limit(int,long)",
        "public boolean PostLedger.fails(int,boolean)",
        "public long PostLedger.hold(int)",
        "public int PostLedger.rows()",
        "public long PostLedger.all()");

    private static final Due due = new Due();

    public static void main(String[] args) {
        Set<String> shown = shownMembers();
        tellMissing("the face lacks ", FACE, shown);
        tellMissing("the face should not show ", shown, FACE);
        checkNamesOfPrivateMethods();
        checkModifiers();
        due.is("UNKNOWN", PostLedger.UNKNOWN, -2000000001L);
        due.is("OUTSIDE", PostLedger.OUTSIDE, -2000000002L);
        due.is("STATE", PostLedger.STATE, -2000000003L);
        due.is("ROOM", PostLedger.ROOM, -2000000004L);
        due.endProgram("FaceTest");
    }

    private static Set<String> shownMembers() {
        Set<String> shown = new TreeSet<>();
        for (Field field : PostLedger.class.getDeclaredFields()) {
            addIfShown(shown, field, field.toString());
        }
        for (Constructor<?> constructor : PostLedger.class.getDeclaredConstructors()) {
            addIfShown(shown, constructor, constructor.toString());
        }
        for (Method method : PostLedger.class.getDeclaredMethods()) {
            addIfShown(shown, method, method.toString());
        }
        return shown;
    }

    private static void addIfShown(Set<String> shown, Member member, String text) {
        if (!Modifier.isPrivate(member.getModifiers())) {
            shown.add(text);
        }
    }

    private static void tellMissing(String words, Set<String> wanted, Set<String> there) {
        for (String member : wanted) {
            if (!there.contains(member)) {
                due.fault(words + member);
            }
        }
    }

    private static void checkNamesOfPrivateMethods() {
        Set<String> publicNames = new TreeSet<>();
        for (Method method : PostLedger.class.getMethods()) {
            publicNames.add(method.getName());
        }
        for (Method method : PostLedger.class.getDeclaredMethods()) {
            if (Modifier.isPrivate(method.getModifiers()) && publicNames.contains(method.getName())) {
                due.fault("a private method bears a public one's name: " + method);
            }
        }
    }

    private static void checkModifiers() {
        int ofClass = PostLedger.class.getModifiers();
        if (!Modifier.isPublic(ofClass) || !Modifier.isFinal(ofClass)) {
            due.fault("the class is not public and final");
        }
        for (Class<?> inside : PostLedger.class.getDeclaredClasses()) {
            int modifiers = inside.getModifiers();
            if (!Modifier.isStatic(modifiers) || Modifier.isPublic(modifiers) || Modifier.isProtected(modifiers)) {
                due.fault("a class inside is not static, or shown: " + inside);
            }
        }
    }
}

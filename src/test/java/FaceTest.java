import java.lang.reflect.Constructor;
import java.lang.reflect.Field;
import java.lang.reflect.Member;
import java.lang.reflect.Method;
import java.lang.reflect.Modifier;
import java.util.ArrayList;
import java.util.Arrays;
import java.util.Collections;
import java.util.List;
import java.util.Set;
import java.util.TreeSet;

/** The face is the document's, and nothing else of the class can be seen. */
public final class FaceTest {
    private static final String[] DUE = {
        "void begin(int, int, int) IllegalArgumentException",
        "void register(int) IllegalArgumentException IllegalStateException UnsupportedOperationException",
        "int cast(int, int, int) IllegalArgumentException IllegalStateException UnsupportedOperationException",
        "int close() IllegalStateException UnsupportedOperationException",
        "void mix(int, int) IllegalStateException IllegalArgumentException UnsupportedOperationException",
        "void open(int, int) IllegalArgumentException IllegalStateException UnsupportedOperationException",
        "int finish() IllegalStateException UnsupportedOperationException",
        "int phase()",
        "int votes(int) IllegalArgumentException",
        "int records()",
        "int field(int, int) IndexOutOfBoundsException",
        "int forge(int, int, int) IndexOutOfBoundsException",
        "int audit()",
        "long leaf(int) IndexOutOfBoundsException",
        "long head(int) IndexOutOfBoundsException",
        "int prove(int, int) IndexOutOfBoundsException",
        "int relate(int, int) IndexOutOfBoundsException",
        "long proof(int) IndexOutOfBoundsException",
        "boolean shows(int, int, long, long)",
        "boolean continues(int, int, long, long)",
    };

    private FaceTest() {
    }

    public static void main(String[] args) throws Exception {
        Class<?> face = OpenPoll.class;
        Check.isTrue("public and final",
            Modifier.isPublic(face.getModifiers()) && Modifier.isFinal(face.getModifiers()));
        Check.equal("NONE", OpenPoll.NONE, -1);
        methods(face);
        fields(face);
        Constructor<?>[] constructors = face.getDeclaredConstructors();
        Check.equal("constructors", constructors.length, 1);
        Check.equal("the constructor", constructors[0].toString(), "public OpenPoll()");
        inside(face);
        roomOfARun();
        Check.end();
    }

    private static boolean isHidden(Member member) {
        return Modifier.isPrivate(member.getModifiers()) || member.isSynthetic();
    }

    private static void methods(Class<?> face) {
        List<String> got = new ArrayList<>();
        Set<String> names = new TreeSet<>();
        for (Method method : face.getDeclaredMethods()) {
            if (!isHidden(method)) {
                Check.equal("modifiers of " + method.getName(), Modifier.toString(method.getModifiers()), "public");
                got.add(signature(method));
                names.add(method.getName());
            }
        }
        List<String> due = new ArrayList<>(Arrays.asList(DUE));
        Collections.sort(got);
        Collections.sort(due);
        Check.equal("methods", got, due);
        for (Method method : face.getDeclaredMethods()) {
            Check.isFalse("a private method has the name of a public one: " + method.getName(),
                isHidden(method) && names.contains(method.getName()));
        }
    }

    private static String signature(Method method) {
        StringBuilder text = new StringBuilder();
        text.append(method.getReturnType()).append(' ').append(method.getName()).append('(');
        for (Class<?> type : method.getParameterTypes()) {
            text.append(text.charAt(text.length() - 1) == '(' ? "" : ", ").append(type);
        }
        text.append(')');
        for (Class<?> type : method.getExceptionTypes()) {
            text.append(' ').append(type.getSimpleName());
        }
        return text.toString();
    }

    private static void fields(Class<?> face) {
        for (Field field : face.getDeclaredFields()) {
            String due = field.getName().equals("NONE") ? "public static final" : "private";
            Check.isTrue("field " + field.getName(),
                Modifier.toString(field.getModifiers()).startsWith(due));
            Check.isTrue("a static field is final: " + field.getName(),
                !Modifier.isStatic(field.getModifiers()) || Modifier.isFinal(field.getModifiers()));
        }
    }

    private static void inside(Class<?> face) {
        for (Class<?> part : face.getDeclaredClasses()) {
            int modifiers = part.getModifiers();
            Check.isTrue("static and not for others: " + part.getSimpleName(), Modifier.isStatic(modifiers)
                && !Modifier.isPublic(modifiers) && !Modifier.isProtected(modifiers));
            for (Method method : part.getDeclaredMethods()) {
                Check.isTrue("at most seven parameters: " + method.getName(), method.getParameterCount() <= 7);
            }
            for (Field field : part.getDeclaredFields()) {
                Check.isTrue("a static field is final: " + field.getName(),
                    !Modifier.isStatic(field.getModifiers()) || Modifier.isFinal(field.getModifiers()));
            }
        }
        Check.isTrue("at most twelve classes", face.getDeclaredClasses().length <= 11);
    }

    /** The dearest calls, 512 of them, make nothing that is kept or counted: a run's room is the object's own. */
    private static void roomOfARun() {
        com.sun.management.ThreadMXBean threads =
            (com.sun.management.ThreadMXBean) java.lang.management.ManagementFactory.getThreadMXBean();
        OpenPoll poll = new OpenPoll();
        dearCalls(poll);
        long me = Thread.currentThread().getId();
        long before = threads.getThreadAllocatedBytes(me);
        dearCalls(poll);
        long made = threads.getThreadAllocatedBytes(me) - before;
        Check.isTrue("bytes made by some 500 calls: " + made, made < 4096);
    }

    private static void dearCalls(OpenPoll poll) {
        poll.begin(1, 2, 3);
        for (int voter = 0; voter < 10; voter++) {
            poll.register(voter);
            poll.cast(voter, voter % 4, voter);
        }
        poll.close();
        poll.mix(1, 7);
        for (int trustee = 0; trustee < 3; trustee++) {
            poll.open(trustee, 1);
        }
        poll.finish();
        for (int i = 0; i < 80; i++) {
            poll.audit();
            poll.head(70);
            poll.prove(i % 70, 70);
            poll.relate(1 + i % 70, 70);
            poll.shows(i % 70, 70, 1, 1);
            poll.continues(1 + i % 70, 70, 1, 1);
        }
    }
}

import java.lang.reflect.Constructor;
import java.lang.reflect.Field;
import java.lang.reflect.Method;
import java.lang.reflect.Modifier;
import java.util.Arrays;
import java.util.Set;
import java.util.TreeSet;

/** The face is the document's: no member more, none less. */
public final class FaceTest {
    private static final String[] FACE = {
        "int rack(int)", "void row(int,int,int)", "int put(int,int,int,int)", "int tear(int,int,int)",
        "int stone(int,int,int,int)", "int told(int,int)", "int arch(int)",
        "void pier(int,int,int,int,int,int)", "void place(int,int,int)", "int there(int,int)",
        "int load(int,int,int,int)", "void slope(int,int,int)", "int whole(int)", "int joint(int,int,int)",
        "int line(int,int,int,int,int)", "int judge(int,int)", "int number(int)", "int bound(int,int)",
        "int weigh(int)", "int room(int)", "boolean strike(int,int,int)", "int order(int,int)",
        "int octet(int)", "int count(int)",
    };

    public static void main(String[] args) throws Exception {
        Set<String> due = new TreeSet<>(Arrays.asList(FACE));
        Set<String> found = new TreeSet<>();
        boolean wrong = false;
        for (Method method : ArchYard.class.getDeclaredMethods()) {
            if (!Modifier.isPrivate(method.getModifiers())) {
                found.add(signature(method));
            } else if (Arrays.stream(FACE).anyMatch(face -> face.contains(" " + method.getName() + "("))) {
                System.out.println("a private method bears a public name: " + method);
                wrong = true;
            }
        }
        if (!due.equals(found)) {
            System.out.println("due is " + due + ", found is " + found);
            wrong = true;
        }
        for (Field field : ArchYard.class.getDeclaredFields()) {
            if (!Modifier.isPrivate(field.getModifiers()) && !field.getName().equals("NONE")) {
                System.out.println("a field that is not private: " + field);
                wrong = true;
            }
        }
        Constructor<?>[] constructors = ArchYard.class.getDeclaredConstructors();
        wrong |= constructors.length != 1 || !Modifier.isPublic(constructors[0].getModifiers());
        wrong |= ArchYard.NONE != -1 || !Modifier.isFinal(ArchYard.class.getModifiers());
        System.exit(wrong ? 1 : 0);
    }

    private static String signature(Method method) {
        StringBuilder text = new StringBuilder(method.getReturnType().getName());
        text.append(' ').append(method.getName()).append('(');
        Class<?>[] types = method.getParameterTypes();
        for (int i = 0; i < types.length; i++) {
            text.append(i == 0 ? "" : ",").append(types[i].getName());
        }
        return text.append(')').toString();
    }
}

import java.lang.reflect.Constructor;
import java.lang.reflect.Field;
import java.lang.reflect.Method;
import java.lang.reflect.Modifier;
import java.util.Arrays;
import java.util.Set;
import java.util.TreeSet;

/** The face is the document's, no member more, none less; the classes inside are as LANGUAGE.md has them. */
public final class FaceTest {
    private static final String[] FACE = {
        "int rack(int)", "void row(int,int,int)", "int put(int,int,int,int)", "int tear(int,int,int)",
        "int stone(int,int,int,int)", "int told(int,int)", "int arch(int)",
        "void pier(int,int,int,int,int,int)", "void place(int,int,int)", "int there(int,int)",
        "int load(int,int,int,int)", "void slope(int,int,int)", "int whole(int)", "int joint(int,int,int)",
        "int line(int,int,int,int,int)", "int judge(int,int)", "int number(int)", "int bound(int,int)",
        "int weigh(int)", "int room(int)", "boolean strike(int,int,int)", "int order(int,int)",
        "int octet(int)", "int count(int)",
    };

    public static void main(String[] args) throws Exception {
        Set<String> due = new TreeSet<>(Arrays.asList(FACE));
        Set<String> found = new TreeSet<>();
        boolean wrong = false;
        for (Method method : ArchYard.class.getDeclaredMethods()) {
            if (!Modifier.isPrivate(method.getModifiers())) {
                found.add(signature(method));
            } else if (Arrays.stream(FACE).anyMatch(face -> face.contains(" " + method.getName() + "("))) {
                System.out.println("a private method bears a public name: " + method);
                wrong = true;
            }
        }
        if (!due.equals(found)) {
            System.out.println("due is " + due + ", found is " + found);
            wrong = true;
        }
        for (Field field : ArchYard.class.getDeclaredFields()) {
            if (!Modifier.isPrivate(field.getModifiers()) && !field.getName().equals("NONE")) {
                System.out.println("a field that is not private: " + field);
                wrong = true;
            }
        }
        Constructor<?>[] constructors = ArchYard.class.getDeclaredConstructors();
        wrong |= constructors.length != 1 || !Modifier.isPublic(constructors[0].getModifiers());
        wrong |= ArchYard.NONE != -1 || !Modifier.isFinal(ArchYard.class.getModifiers());
        for (Class<?> inside : ArchYard.class.getDeclaredClasses()) {
            wrong |= isAmiss(inside);
        }
        System.exit(wrong ? 1 : 0);
    }

    /** Rules 1, 2, 5 and 11, as far as a class that is compiled can show them. */
    private static boolean isAmiss(Class<?> inside) {
        int modifiers = inside.getModifiers();
        boolean wrong = !Modifier.isStatic(modifiers) || Modifier.isPublic(modifiers) || Modifier.isProtected(modifiers);
        for (Method method : inside.getDeclaredMethods()) {
            boolean bearsName = Arrays.stream(FACE).anyMatch(face -> face.contains(" " + method.getName() + "("));
            wrong |= bearsName || method.getParameterCount() > 7;
        }
        long fields = 0;
        for (Field field : inside.getDeclaredFields()) {
            wrong |= Modifier.isStatic(field.getModifiers()) && !Modifier.isFinal(field.getModifiers());
            fields += Modifier.isStatic(field.getModifiers()) ? 0 : 1;
        }
        wrong |= fields > 20;
        if (wrong) System.out.println("not as LANGUAGE.md has it: " + inside);
        return wrong;
    }

    private static String signature(Method method) {
        StringBuilder text = new StringBuilder(method.getReturnType().getName());
        text.append(' ').append(method.getName()).append('(');
        Class<?>[] types = method.getParameterTypes();
        for (int i = 0; i < types.length; i++) {
            text.append(i == 0 ? "" : ",").append(types[i].getName());
        }
        return text.append(')').toString();
    }
}

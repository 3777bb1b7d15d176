import java.lang.reflect.Constructor;
import java.lang.reflect.Field;
import java.lang.reflect.Method;
import java.lang.reflect.Modifier;
import java.util.Arrays;
import java.util.TreeSet;

/** The class shows the document's face and nothing else. */
public final class RealRootsFace {
    private static final String[] FACE = {
        "int polynomial()", "int set(int,int,int)", "int coefficient(int,int)", "int make(int,int,int)",
        "int degree(int)", "int roots(int)", "int times(int,int)", "long floor(int,int,int)",
        "long fraction(int,int,int)", "int sign(int,int,int)", "int compare(int,int,int,int)",
        "int rank(int,int)", "int between(int,int,int,int,int)", "int changes(int,int,int)", "int row(int)",
        "int at(int,int,int)", "long newton(int,int,int,int)", "int bound(int)", "int all()", "int count()",
    };

    public static void main(String[] args) throws Exception {
        TreeSet<String> due = new TreeSet<>(Arrays.asList(FACE));
        TreeSet<String> seen = new TreeSet<>();
        TreeSet<String> names = new TreeSet<>();
        int wrong = 0;
        for (Method m : RealRoots.class.getDeclaredMethods()) {
            if (!Modifier.isPrivate(m.getModifiers())) {
                StringBuilder text = new StringBuilder(m.getReturnType() + " " + m.getName() + "(");
                for (Class<?> type : m.getParameterTypes()) {
                    text.append(text.charAt(text.length() - 1) == '(' ? "" : ",").append(type);
                }
                seen.add(text.append(")").toString());
                names.add(m.getName());
                if (m.getModifiers() != Modifier.PUBLIC) {
                    System.out.println("not plainly public: " + m);
                    wrong++;
                }
                Class<?>[] thrown = m.getName().equals("newton") ? new Class<?>[] {ArithmeticException.class}
                    : new Class<?>[0];
                if (!Arrays.equals(m.getExceptionTypes(), thrown)) {
                    System.out.println("what it throws is not as due: " + m);
                    wrong++;
                }
            }
        }
        for (Method m : RealRoots.class.getDeclaredMethods()) {
            if (Modifier.isPrivate(m.getModifiers()) && names.contains(m.getName())) {
                System.out.println("a private method bears a public name: " + m);
                wrong++;
            }
        }
        if (!seen.equals(due)) {
            System.out.println("methods are " + seen + ", due are " + due);
            wrong++;
        }
        for (Field f : RealRoots.class.getDeclaredFields()) {
            if (!Modifier.isPrivate(f.getModifiers()) && !f.getName().equals("NONE")) {
                System.out.println("a field shows: " + f);
                wrong++;
            }
        }
        Constructor<?>[] made = RealRoots.class.getDeclaredConstructors();
        if (made.length != 1 || !Modifier.isPublic(made[0].getModifiers()) || made[0].getParameterCount() != 0) {
            System.out.println("constructors are " + Arrays.toString(made));
            wrong++;
        }
        if (!Modifier.isFinal(RealRoots.class.getModifiers()) || RealRoots.NONE != -1) {
            System.out.println("the class is not final, or NONE is not -1");
            wrong++;
        }
        System.out.println(wrong == 0 ? "the face is as due" : wrong + " faults in the face");
        if (wrong != 0) {
            System.exit(1);
        }
    }
}

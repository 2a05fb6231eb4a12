import java.lang.reflect.Constructor;
import java.lang.reflect.Field;
import java.lang.reflect.Method;
import java.lang.reflect.Modifier;
import java.util.Arrays;
import java.util.TreeSet;

/** The public face is that of the document and nothing else can be seen. */
public final class FaceTest {
    /** Those of promises 2 to 28, in their order. */
    private static final String[] FACE = {
        "int boot(int version)", "int poke(int place, int a, int b, int c, int d, int e)", "int word(int place)",
        "int inner(int place)", "int secret(int enclave, int offset, int value)",
        "int setRegister(int hart, int n, int v)", "int register(int hart, int n)", "int inside(int thread, int n)",
        "int place(int hart, int pc, int mode)", "int setControl(int hart, int number, int v)",
        "int control(int hart, int number)", "int call(int hart, int f, int p, int q, int r, int s)",
        "int run(int rounds)", "int type(int key)", "int panel(int i)", "boolean line(boolean on)",
        "int enclave(int enclave, int what)", "int thread(int thread, int what)", "int region(int region, int what)",
        "int entry(int hart, int i, int what)", "int event(int i, int what)", "int console(int i)",
        "int disk(int sector, int k, int v)", "int digest(int place, int n, int k)", "boolean genuine(int place)",
        "long outside()", "int count(int what)"
    };
    private static final Check check = new Check("FaceTest");

    public static void main(String[] args) {
        check.look(args);
        theClass();
        methods();
        check.end();
    }

    private static void theClass() {
        check.face(1, "public final class EnclaveHouse { public static final int NONE = -1; "
            + "public EnclaveHouse(int seed);");
        check.is("class", Modifier.PUBLIC | Modifier.FINAL, EnclaveHouse.class.getModifiers());
        check.is("fields", "[NONE]", seenFields().toString());
        check.is("NONE", -1, EnclaveHouse.NONE);
        Constructor<?>[] made = EnclaveHouse.class.getDeclaredConstructors();
        check.is("constructors", 1, made.length);
        check.is("constructor", "[int]", Arrays.toString(made[0].getParameterTypes()));
        check.is("it is public", Modifier.PUBLIC, made[0].getModifiers());
    }

    private static void methods() {
        TreeSet<String> seen = seenMethods();
        for (int i = 0; i < FACE.length; i++) {
            check.face(i + 2, "public " + FACE[i] + ";");
            check.is(FACE[i], true, seen.remove(FACE[i].replaceAll("(int|boolean) \\w+(?=[,)])", "$1")));
        }
        check.is("no others", "[]", seen.toString());
    }

    private static TreeSet<String> seenMethods() {
        TreeSet<String> seen = new TreeSet<>();
        for (Method method : EnclaveHouse.class.getDeclaredMethods()) {
            if (!Modifier.isPrivate(method.getModifiers()) && !method.isSynthetic()) {
                StringBuilder text = new StringBuilder(method.getReturnType() + " " + method.getName() + "(");
                for (Class<?> type : method.getParameterTypes()) {
                    text.append(text.charAt(text.length() - 1) == '(' ? "" : ", ").append(type);
                }
                seen.add(text.append(")").toString());
            }
        }
        return seen;
    }

    private static TreeSet<String> seenFields() {
        TreeSet<String> seen = new TreeSet<>();
        for (Field field : EnclaveHouse.class.getDeclaredFields()) {
            if (!Modifier.isPrivate(field.getModifiers())) {
                seen.add(field.getName());
            }
        }
        return seen;
    }
}

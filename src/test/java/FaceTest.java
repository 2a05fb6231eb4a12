import java.lang.reflect.Constructor;
import java.lang.reflect.Field;
import java.lang.reflect.Method;
import java.lang.reflect.Modifier;
import java.util.Arrays;
import java.util.TreeSet;

/** The public face is that of the document and nothing else can be seen. */
public final class FaceTest {
    private static final String[] FACE = {
        "int boot(int)", "int poke(int,int,int,int,int,int)", "int word(int)", "int inner(int)",
        "int secret(int,int,int)", "int setRegister(int,int,int)", "int register(int,int)", "int inside(int,int)",
        "int place(int,int,int)", "int setControl(int,int,int)", "int control(int,int)",
        "int call(int,int,int,int,int,int)", "int run(int)", "int type(int)", "int panel(int)",
        "boolean line(boolean)", "int enclave(int,int)", "int thread(int,int)", "int region(int,int)",
        "int entry(int,int,int)", "int event(int,int)", "int console(int)", "int disk(int,int,int)",
        "int digest(int,int,int)", "boolean genuine(int)", "long outside()", "int count(int)"
    };

    public static void main(String[] args) {
        Check check = new Check("FaceTest");
        check.is("methods", new TreeSet<>(Arrays.asList(FACE)).toString(), seenMethods().toString());
        check.is("class", Modifier.PUBLIC | Modifier.FINAL, EnclaveHouse.class.getModifiers());
        check.is("fields", "[NONE]", seenFields().toString());
        check.is("NONE", -1, EnclaveHouse.NONE);
        Constructor<?>[] made = EnclaveHouse.class.getDeclaredConstructors();
        check.is("constructors", 1, made.length);
        check.is("constructor", "[int]", Arrays.toString(made[0].getParameterTypes()));
        check.end();
    }

    private static TreeSet<String> seenMethods() {
        TreeSet<String> seen = new TreeSet<>();
        for (Method method : EnclaveHouse.class.getDeclaredMethods()) {
            if (!Modifier.isPrivate(method.getModifiers()) && !method.isSynthetic()) {
                StringBuilder text = new StringBuilder(method.getReturnType() + " " + method.getName() + "(");
                for (Class<?> type : method.getParameterTypes()) {
                    text.append(text.charAt(text.length() - 1) == '(' ? "" : ",").append(type);
                }
                seen.add(text.append(")").toString());
            }
        }
        return seen;
    }

    private static TreeSet<String> seenFields() {
        TreeSet<String> seen = new TreeSet<>();
        for (Field field : EnclaveHouse.class.getDeclaredFields()) {
            if (!Modifier.isPrivate(field.getModifiers())) {
                seen.add(field.getName());
            }
        }
        return seen;
    }
}

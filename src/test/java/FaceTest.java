import java.lang.reflect.Constructor;
import java.lang.reflect.Field;
import java.lang.reflect.Method;
import java.lang.reflect.Modifier;
import java.util.ArrayList;
import java.util.Arrays;
import java.util.List;

/** The public face: the members that the document tells, and no others that could be seen from outside. */
public final class FaceTest {
    private static final Check CHECK = new Check("FaceTest");
    private static final String[] METHODS = {"int feed int int int int int", "int trim int", "int teach", "int errorAt", "int count int",
        "int card int int", "int merchant int int", "int owns int int", "int deck int int", "int discard int int", "int leader",
        "int give int int", "int trash int int", "int shuffle int", "int play int", "int next int int", "int foresee int int",
        "int missed int int", "int advise int int", "double mean", "long digest"};

    public static void main(String[] args) {
        CHECK.due("a public and final class", TarotMerchants.class.getModifiers(), Modifier.PUBLIC | Modifier.FINAL);
        constructor();
        methods();
        fields();
        CHECK.end();
    }

    private static void constructor() {
        Constructor<?>[] all = TarotMerchants.class.getDeclaredConstructors();
        CHECK.due("constructors", all.length, 1);
        CHECK.due("a public one", all[0].getModifiers(), Modifier.PUBLIC);
        CHECK.due("without parameters", all[0].getParameterCount(), 0);
    }

    private static void methods() {
        List<String> wanted = new ArrayList<>(Arrays.asList(METHODS));
        for (Method method : TarotMerchants.class.getDeclaredMethods()) {
            if (!Modifier.isPrivate(method.getModifiers()) && !method.isSynthetic()) {
                StringBuilder face = new StringBuilder(method.getReturnType() + " " + method.getName());
                for (Class<?> parameter : method.getParameterTypes()) {
                    face.append(' ').append(parameter);
                }
                CHECK.due("is promised (1): " + face, wanted.remove(face.toString()) ? 1 : 0, 1);
                CHECK.due("is public: " + face, method.getModifiers(), Modifier.PUBLIC);
            }
        }
        CHECK.due("promised, but not there: " + wanted, wanted.size(), 0);
    }

    private static void fields() {
        for (Field field : TarotMerchants.class.getDeclaredFields()) {
            CHECK.due("is private (1): " + field.getName(), Modifier.isPrivate(field.getModifiers()) || field.isSynthetic() ? 1 : 0, 1);
        }
    }
}

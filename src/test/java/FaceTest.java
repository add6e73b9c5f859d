import java.lang.reflect.Field;
import java.lang.reflect.Method;
import java.lang.reflect.Modifier;
import java.io.IOException;
import java.nio.file.Files;
import java.nio.file.Path;
import java.util.Arrays;
import java.util.Set;
import java.util.TreeSet;

/** The face as the document lists it, nothing else open; and those rules of LANGUAGE.md that can be looked up. */
public final class FaceTest {
    private static final String[] FACE = {
        "int shop(int)", "int suit(int,int)", "int booking(int,int)", "int buys(int,int)", "int books(int,int,int)",
        "int hires(int,int)", "int returns(int)", "int cleans(int)", "int fits(int,int)", "int served(int)",
        "int leftOver()", "int earned()", "int alike()", "int oneMore()", "long grown(int)", "long come(int,int)",
        "int refuse()", "int buy(int,int)", "int sell()", "int shines()", "int ready(int,int)", "int fee(int,int)",
        "int bestFee()", "int atFive(int,int,int)", "int taxi(int,int,int)", "int friday(int)", "int tight()",
        "int stained(int,int,int)", "int forged(int)", "int judge(int)", "int weeks(int,int,int)", "int image()",
        "int restore()", "int count(int)", "int keep(int,int,int,int)", "int row(int,int,int)",
        "int put(int,int,int)", "long element(int,int)", "int copy(int,int,int,int,int)", "int cost(int)",
        "int toss(int)"};

    public static void main(String[] args) throws IOException {
        face();
        classes();
        source();
        Check.end();
    }

    private static void face() {
        Class<?> c = BackByNoonOnMonday.class;
        Set<String> open = new TreeSet<>();
        Set<String> openNames = new TreeSet<>();
        for (Method m : c.getDeclaredMethods()) {
            if (!Modifier.isPrivate(m.getModifiers())) {
                String types = Arrays.toString(m.getParameterTypes()).replaceAll("[\\[\\] ]", "");
                open.add(m.getReturnType() + " " + m.getName() + "(" + types + ")");
                openNames.add(m.getName());
                Check.due(m.getName() + " is public alone", m.getModifiers(), Modifier.PUBLIC);
            }
        }
        Set<String> face = new TreeSet<>(Arrays.asList(FACE));
        Check.due("the face: " + open, open.equals(face) ? 1 : 0, 1);
        for (Method m : c.getDeclaredMethods()) {
            boolean hides = Modifier.isPrivate(m.getModifiers()) && openNames.contains(m.getName());
            Check.due("private " + m.getName(), hides ? 1 : 0, 0);
        }
        for (Field f : c.getDeclaredFields()) {
            Check.due("field " + f.getName(), Modifier.isPrivate(f.getModifiers()) ? 1 : 0, 1);
        }
        Check.due("constructors", c.getDeclaredConstructors().length, 1);
        Check.due("public and final", c.getModifiers(), Modifier.PUBLIC | Modifier.FINAL);
    }

    private static void classes() {
        Class<?>[] inside = BackByNoonOnMonday.class.getDeclaredClasses();
        Check.due("twelve classes at most", inside.length <= 11 ? 1 : 0, 1);
        for (Class<?> c : inside) {
            Check.due(c + " is static", Modifier.isStatic(c.getModifiers()) ? 1 : 0, 1);
            Check.due(c + " is not open", c.getModifiers() & (Modifier.PUBLIC | Modifier.PROTECTED), 0);
            Check.due(c + " has fields", fewFields(c) ? 1 : 0, 1);
            for (Method m : c.getDeclaredMethods()) {
                Check.due(c + " " + m.getName(), m.getParameterCount() <= 7 ? 1 : 0, 1);
            }
        }
        Check.due("fields", fewFields(BackByNoonOnMonday.class) ? 1 : 0, 1);
    }

    private static boolean fewFields(Class<?> c) {
        int fields = 0;
        for (Field f : c.getDeclaredFields()) {
            if (Modifier.isStatic(f.getModifiers())) {
                Check.due("static " + f.getName() + " is final", Modifier.isFinal(f.getModifiers()) ? 1 : 0, 1);
            } else {
                fields++;
            }
        }
        return fields <= 20;
    }

    private static void source() throws IOException {
        String text = Files.readString(Path.of("src/main/java/BackByNoonOnMonday.java"));
        String code = text.replaceAll("(?s)/\\*.*?\\*/", "").replaceAll("//[^\n]*", "");
        String[] ruledOut = {"import ", "package ", "->", "::", "finally", "synchronized", "assert ", "Exact(",
            "record ", "@", "instanceof", "System.out", "Throwable", "catch (Exception", "catch (RuntimeException",
            "NullPointerException", "ArrayIndex", "ClassCast", "NegativeArraySize", "ArrayStore", "getMessage",
            "hashCode", "while (true)", "for (;;)"};
        for (String word : ruledOut) {
            Check.due("'" + word + "' in the source", code.contains(word) ? 1 : 0, 0);
        }
        for (int i = 0; i < text.length(); i++) {
            Check.due("sign", text.charAt(i) < 128 ? 1 : 0, 1);
        }
    }
}

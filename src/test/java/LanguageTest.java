import java.io.IOException;
import java.lang.reflect.Constructor;
import java.lang.reflect.Field;
import java.lang.reflect.Method;
import java.lang.reflect.Modifier;
import java.nio.file.Files;
import java.nio.file.Path;
import java.util.Arrays;
import java.util.List;
import java.util.TreeSet;
import java.util.regex.Matcher;
import java.util.regex.Pattern;

/** The rules of ../shared/LANGUAGE.md that can be read off the source text or the compiled class. */
public final class LanguageTest {
    private static final Due due = new Due("LanguageTest");
    private static final String FACE = "alone/1 as/2 body/1 book/1 check/1 count/1 cross/2 crossings/1 debt/3 debtIs/2 "
        + "draws/1 feed/2 forget/1 hearsay/2 image/0 judge/2 loses/2 man/2 manIs/2 memory/2 move/5 pay/1 person/1 "
        + "personIs/2 put/3 restore/0 rows/2 seed/1 setMan/3 setPerson/3 sheet/3 stranger/3 tell/1 text/1 told/1 "
        + "untell/1 voice/3 way/3";

    public static void main(String[] args) throws IOException {
        String source = Files.readString(Path.of("src/main/java/FourthFace.java"));
        theFace();
        classesInside();
        fieldsOfClasses();
        words(source);
        library(source);
        lengths(source);
        due.close();
    }

    private static void theFace() {
        Class<?> face = FourthFace.class;
        due.is("public and final", face.getModifiers() & (Modifier.PUBLIC | Modifier.FINAL), Modifier.PUBLIC | Modifier.FINAL);
        due.is("no package", face.getPackageName().length(), 0);
        TreeSet<String> shown = new TreeSet<>();
        TreeSet<String> names = new TreeSet<>();
        for (Method method : face.getDeclaredMethods()) {
            if (!Modifier.isPrivate(method.getModifiers())) {
                shown.add(method.getName() + "/" + method.getParameterCount());
                names.add(method.getName());
            }
        }
        due.is("the face, not " + shown, String.join(" ", shown).equals(FACE) ? 1 : 0, 1);
        for (Method method : face.getDeclaredMethods()) {
            boolean isPrivate = Modifier.isPrivate(method.getModifiers());
            due.is("private name " + method.getName(), isPrivate && names.contains(method.getName()) ? 1 : 0, 0);
        }
        for (Field field : face.getDeclaredFields()) {
            due.is("private field " + field.getName(), Modifier.isPrivate(field.getModifiers()) ? 1 : 0, 1);
        }
        Constructor<?>[] makers = face.getDeclaredConstructors();
        due.is("one constructor", makers.length, 1);
        due.is("public", makers[0].getModifiers(), Modifier.PUBLIC);
    }

    private static void classesInside() {
        Class<?>[] inside = FourthFace.class.getDeclaredClasses();
        due.is("at most eleven classes inside", inside.length <= 11 ? 1 : 0, 1);
        for (Class<?> one : inside) {
            int modifiers = one.getModifiers();
            due.is("static " + one, Modifier.isStatic(modifiers) ? 1 : 0, 1);
            due.is("not shown " + one, Modifier.isPublic(modifiers) || Modifier.isProtected(modifiers) ? 1 : 0, 0);
        }
    }

    private static void fieldsOfClasses() {
        for (Class<?> one : FourthFace.class.getDeclaredClasses()) {
            fieldsOf(one);
        }
        fieldsOf(FourthFace.class);
    }

    private static void fieldsOf(Class<?> one) {
        int own = 0;
        List<Class<?>> rows = List.of(int[].class, long[].class, char[].class, byte[].class);
        for (Field field : one.getDeclaredFields()) {
            if (!Modifier.isStatic(field.getModifiers())) {
                own++;
                continue;
            }
            Class<?> type = field.getType();
            boolean fits = type.isPrimitive() || type == String.class || rows.contains(type);
            due.is("constant " + field, fits && Modifier.isFinal(field.getModifiers()) ? 1 : 0, 1);
        }
        due.is("at most twenty fields in " + one, own <= 20 ? 1 : 0, 1);
    }

    private static String withoutComments(String source) {
        return source.replaceAll("(?s)/\\*.*?\\*/", "").replaceAll("//[^\n]*", "");
    }

    private static void words(String source) {
        String code = withoutComments(source);
        for (String word : new String[] {"throw", "throws", "try", "catch", "finally", "synchronized", "assert", "volatile",
            "transient", "native", "lambda", "record", "Object", "hashCode", "toString", "Exact", "Integer\\.parseInt",
            "System\\.out", "Random", "Thread", "null"}) {
            due.is("word " + word, Pattern.compile("\\b" + word + "\\b").matcher(code).find() ? 1 : 0, 0);
        }
        due.is("no arrow", code.contains("->") ? 1 : 0, 0);
        due.is("no method reference", code.contains("::") ? 1 : 0, 0);
        due.is("no static block", Pattern.compile("static\\s*\\{").matcher(code).find() ? 1 : 0, 0);
        due.is("no package line", code.startsWith("package") ? 1 : 0, 0);
        due.is("signs 1 to 127", source.chars().allMatch(c -> c > 0 && c < 128) ? 1 : 0, 1);
    }

    private static void library(String source) {
        String code = withoutComments(source);
        Matcher imports = Pattern.compile("import ([^;]+);").matcher(code);
        while (imports.find()) {
            due.is("import " + imports.group(1), imports.group(1).equals("java.util.Arrays") ? 1 : 0, 1);
        }
        List<String> fits = Arrays.asList("System.arraycopy", "Arrays.copyOf", "Arrays.fill", "Math.min", "Math.max",
            "Integer.bitCount");
        Matcher calls = Pattern.compile("\\b((?:System|Arrays|Math|Integer|Long|String)\\.\\w+)").matcher(code);
        while (calls.find()) {
            due.is("library " + calls.group(1), fits.contains(calls.group(1)) ? 1 : 0, 1);
        }
    }

    /** From a method's head to the closing brace of the same indent. */
    private static void lengths(String source) {
        Matcher heads = Pattern.compile("(?m)^( +)[\\w\\[\\] ]+\\(([^)]*)\\) \\{$").matcher(source);
        while (heads.find()) {
            String head = heads.group().trim();
            if (head.matches("(if|for|while|switch|else)\\b.*") || head.startsWith("}")) {
                continue;
            }
            int end = source.indexOf("\n" + heads.group(1) + "}\n", heads.end());
            long lines = source.substring(heads.start(), end).chars().filter(c -> c == '\n').count() + 1;
            due.is("lines of " + head, lines <= 60 ? 1 : 0, 1);
            due.is("parameters of " + head, heads.group(2).split(",").length <= 7 ? 1 : 0, 1);
        }
    }
}

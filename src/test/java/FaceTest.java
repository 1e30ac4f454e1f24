import java.lang.reflect.Field;
import java.lang.reflect.Method;
import java.lang.reflect.Modifier;
import java.nio.charset.StandardCharsets;
import java.nio.file.Files;
import java.nio.file.Path;
import java.util.ArrayList;
import java.util.Arrays;
import java.util.List;
import java.util.Set;
import java.util.TreeSet;
import java.util.regex.Matcher;
import java.util.regex.Pattern;

/** The public face as the document has it, and those rules of LANGUAGE.md that can be seen from outside or by words. */
public final class FaceTest {
    private static final String[] FACE = {
        "int sky(int)", "int meteor(int,int)", "int looker(int,int)", "int falls(int,int,int,int)",
        "int meant(int,int)", "int looks(int,int,int)", "int run(int)", "int free(int)", "int seen(int,int,int)",
        "int taker(int)", "int unseen()", "int mistakes()", "int waiting()", "int august(int)",
        "int bestRoof(int,int)", "int roofs()", "int wed(int)", "int rings(int)", "int curve(int,int)",
        "int comes(int,int)", "int together(int,int)", "long clouds(int,int,int,int)", "int darkOnes(int,int)",
        "int game(int,int,int,int)", "int rowOfRoofs(int)", "int laws(int,int,int)", "int scorched(int)",
        "long mean(int)", "int forged(int)", "int judge(int,int)", "int augusts(int,int,int)", "int image()",
        "int restore()", "int count(int)", "int keep(int,int,int,int)", "int row(int,int,int)",
        "int put(int,int,int)", "long element(int,int)", "int copy(int,int,int,int,int)", "int cost(int)",
        "int toss(int)",
    };
    private static final String[] NOT_IN_THE_LANGUAGE = {
        "\\bfinally\\b", "\\bsynchronized\\b", "\\bassert\\b", "->", "::", "@", "\\bprotected\\b", "\\bvar\\b",
        "\\bnew Object\\b", "Exact\\(", "\\bException\\b", "\\bThrowable\\b", "\\bError\\b",
        "ArrayIndexOutOfBoundsException", "NullPointerException", "ClassCastException", "NegativeArraySizeException",
        "ArrayStoreException", "catch \\((?:RuntimeException|IndexOutOfBoundsException|ArithmeticException)",
        "\\bSystem\\.(?!arraycopy)", "\\bMath\\.(?!max|min|abs|floorDiv|floorMod)", "\\bstatic \\{",
    };

    private FaceTest() {
    }

    public static void main(String[] args) throws Exception {
        Class<?> it = MeteorsAreProposals.class;
        face(it);
        for (Class<?> inside : it.getDeclaredClasses()) {
            Check.that(inside.getName() + " is static", Modifier.isStatic(inside.getModifiers()));
            Check.that(inside.getName() + " is not public", !Modifier.isPublic(inside.getModifiers()));
            members(inside);
        }
        Check.that("rule 11: twelve classes", it.getDeclaredClasses().length + 1 <= 12);
        document();
        source(Path.of(args.length > 0 ? args[0] : "src/main/java/MeteorsAreProposals.java"));
        Check.end();
    }

    private static void face(Class<?> it) {
        Check.that("public and final", Modifier.isPublic(it.getModifiers()) && Modifier.isFinal(it.getModifiers()));
        Check.due("constructors", it.getDeclaredConstructors().length, 1);
        Check.that("public", Modifier.isPublic(it.getDeclaredConstructors()[0].getModifiers()));
        Set<String> found = new TreeSet<>();
        Set<String> names = new TreeSet<>();
        for (Method method : it.getDeclaredMethods()) {
            if (Modifier.isPublic(method.getModifiers())) {
                String call = Arrays.toString(method.getParameterTypes()).replaceAll("[\\[\\] ]", "");
                found.add(method.getReturnType() + " " + method.getName() + "(" + call + ")");
                names.add(method.getName());
            }
        }
        Check.that("the face " + found, found.equals(new TreeSet<>(Arrays.asList(FACE))));
        for (Method method : it.getDeclaredMethods()) {
            if (!Modifier.isPublic(method.getModifiers())) {
                Check.that(method + " is private", Modifier.isPrivate(method.getModifiers()));
                Check.that(method + " bears its own name", !names.contains(method.getName()));
            }
        }
        for (Field field : it.getDeclaredFields()) {
            Check.that(field + " is private", Modifier.isPrivate(field.getModifiers()));
        }
        members(it);
    }

    /** The calls above are those of the document, one for one and in its order, and so is what they throw. */
    private static void document() throws Exception {
        String text = Files.readString(Path.of("../shared/DOC.md"), StandardCharsets.UTF_8);
        String face = text.substring(text.indexOf("## The public face"), text.indexOf("## Terms"));
        List<String> found = new ArrayList<>();
        for (String line : face.split("\n")) {
            Matcher call = Pattern.compile("    public (int|long) (\\w+)\\((.*?)\\)(.*);").matcher(line);
            if (call.matches()) {
                String numbers = call.group(3).replaceAll("int \\w+", "int").replace(" ", "");
                found.add(call.group(1) + " " + call.group(2) + "(" + numbers + ")");
                boolean throwsSome = call.group(2).equals("element");
                Check.same("what " + call.group(2) + " throws", call.group(4),
                    throwsSome ? " throws IllegalArgumentException, IllegalStateException" : "");
            }
        }
        Check.same("the face of the document", found.toString(), Arrays.asList(FACE).toString());
        Class<?>[] thrown = MeteorsAreProposals.class.getMethod("element", int.class, int.class).getExceptionTypes();
        Check.same("what element throws", Arrays.toString(thrown),
            Arrays.toString(new Class<?>[] {IllegalArgumentException.class, IllegalStateException.class}));
    }

    private static void members(Class<?> one) {
        int fields = 0;
        for (Field field : one.getDeclaredFields()) {
            boolean fixed = Modifier.isStatic(field.getModifiers());
            fields += fixed ? 0 : 1;
            Check.that(field + " is final", !fixed || Modifier.isFinal(field.getModifiers()));
        }
        Check.that("rule 11: fields of " + one, fields <= 20);
        for (Method method : one.getDeclaredMethods()) {
            Check.that("rule 11: parameters of " + method, method.getParameterCount() <= 7);
        }
    }

    private static void source(Path file) throws Exception {
        String text = Files.readString(file, StandardCharsets.UTF_8);
        String code = text.replaceAll("(?s)/\\*.*?\\*/", "").replaceAll("//[^\n]*", "");
        for (String word : NOT_IN_THE_LANGUAGE) {
            Check.that("without " + word, !Pattern.compile(word).matcher(code).find());
        }
        Check.that("only signs 0 to 127", text.chars().allMatch(sign -> sign < 128));
        Check.that("no package", !Pattern.compile("(?m)^package ").matcher(code).find());
        for (String line : code.split("\n")) {
            Check.that(line, !line.startsWith("import ") || line.equals("import java.util.Arrays;"));
        }
    }
}

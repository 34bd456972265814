import java.lang.reflect.Constructor;
import java.lang.reflect.Field;
import java.lang.reflect.Member;
import java.lang.reflect.Method;
import java.lang.reflect.Modifier;
import java.nio.charset.StandardCharsets;
import java.nio.file.Files;
import java.nio.file.Path;
import java.util.ArrayList;
import java.util.Arrays;
import java.util.List;
import java.util.Set;
import java.util.TreeSet;
import java.util.regex.Matcher;
import java.util.regex.Pattern;

/** What of ../shared/LANGUAGE.md can be seen from the source's words and the class's members. */
public final class LanguageTest {
    private static final String[] FACE = {
        "boolean plant(int,int,int,int)", "boolean person(int,int,int)", "boolean card(int,boolean)", "int pour(int,int)",
        "int feed(int,int,int,int,int)", "int law(int)", "int rule(int,int)", "int days(int)", "int tried(int,int)",
        "int plantIs(int,int)", "int gives(int,int)", "long exactly(int,int,int,int)", "long chance(int,int,int,int)",
        "long toAsk(int,int,int,int)", "int few(int,int,int,int)", "long pot(int,int,int,int)",
        "long ruleFor(int,int,int,int,int)", "int lasts(int,int)", "int needs(int,int)", "int week(int,int,int)",
        "long movesOut(int,int,int,int)", "int spread(int,int)", "long comes(int,int,int)", "int share(int,int)",
        "int rota(int,int,int)", "int alone(int,int)", "long whoDid(int,int,int,int,int)", "long can(int,int,int,int)",
        "boolean seed(int)", "int keep()", "boolean undo()", "int check(int,int)", "int count(int)"
    };
    private static final String[] WORDS = {
        "throw", "throws", "try", "catch", "finally", "synchronized", "assert", "record", "var", "yield", "native",
        "transient", "volatile", "Object", "Integer.valueOf", "System.out", "Map", "Set", "HashMap", "Stream", "Random",
        "equals", "hashCode", "toString", "Exact", "float", "double", "protected", "while", "do"
    };

    private static int wrong;

    private static void due(String what, boolean is) {
        if (!is) {
            wrong++;
            System.out.println("not so: " + what);
        }
    }

    public static void main(String[] args) throws Exception {
        String source = Files.readString(Path.of("src/main/java/LandingTree.java"), StandardCharsets.ISO_8859_1);
        face();
        members();
        words(bare(source));
        lengths(source);
        recursion(bare(source));
        System.out.println(wrong == 0 ? "the language is kept, as far as this test sees" : wrong + " faults");
        if (wrong != 0) {
            System.exit(1);
        }
    }

    private static String named(Method method) {
        StringBuilder text = new StringBuilder(method.getReturnType() + " " + method.getName() + "(");
        Class<?>[] types = method.getParameterTypes();
        for (int i = 0; i < types.length; i++) {
            text.append(i == 0 ? "" : ",").append(types[i]);
        }
        return text.append(")").toString();
    }

    private static void face() throws Exception {
        Set<String> is = new TreeSet<>();
        for (Method method : LandingTree.class.getDeclaredMethods()) {
            if (!Modifier.isPrivate(method.getModifiers())) {
                due(method + " is public", Modifier.isPublic(method.getModifiers()));
                is.add(named(method));
            }
        }
        due("the face: " + is, is.equals(new TreeSet<>(Arrays.asList(FACE))));
        due("public and final", LandingTree.class.getModifiers() == (Modifier.PUBLIC | Modifier.FINAL));
        Constructor<?>[] all = LandingTree.class.getDeclaredConstructors();
        due("one constructor", all.length == 1 && Modifier.isPublic(all[0].getModifiers()));
        Field none = LandingTree.class.getDeclaredField("NONE");
        due("NONE", Modifier.toString(none.getModifiers()).equals("public static final") && none.getInt(null) == -1);
    }

    private static void members() {
        List<Class<?>> classes = new ArrayList<>(List.of(LandingTree.class.getDeclaredClasses()));
        for (Class<?> inner : classes) {
            due(inner + " is static", Modifier.isStatic(inner.getModifiers()));
            due(inner + " is not public", !Modifier.isPublic(inner.getModifiers()));
        }
        classes.add(LandingTree.class);
        due("twelve classes at most", classes.size() <= 12);
        Set<String> names = new TreeSet<>();
        for (String method : FACE) {
            names.add(method.substring(method.indexOf(' ') + 1, method.indexOf('(')));
        }
        for (Class<?> one : classes) {
            int fields = 0;
            for (Field field : one.getDeclaredFields()) {
                boolean isStatic = Modifier.isStatic(field.getModifiers());
                due(field + " is a constant", !isStatic || Modifier.isFinal(field.getModifiers()));
                due(field + " is private", one != LandingTree.class || field.getName().equals("NONE") || isPrivate(field));
                fields += isStatic ? 0 : 1;
            }
            due(one + " has twenty fields at most", fields <= 20);
            for (Method method : one.getDeclaredMethods()) {
                boolean isFace = one == LandingTree.class && !isPrivate(method);
                due(method + " has a name of its own", isFace || !names.contains(method.getName()));
                due(method + " has seven parameters at most", method.getParameterCount() <= 7);
                due(method + " stands in the source", !method.isSynthetic());
            }
        }
    }

    private static boolean isPrivate(Member member) {
        return Modifier.isPrivate(member.getModifiers());
    }

    /** The source without comments, texts and signs in quotes. */
    private static String bare(String source) {
        Pattern aside = Pattern.compile("/\\*.*?\\*/|//[^\\n]*|\"[^\"\\n]*\"|'[^'\\n]+'", Pattern.DOTALL);
        return aside.matcher(source).replaceAll(" 0 ");
    }

    private static void words(String source) {
        for (String word : WORDS) {
            due("no " + word, !Pattern.compile("(?<![\\w.])" + Pattern.quote(word) + "\\b").matcher(source).find());
        }
        due("no lambda, no arrow", !source.contains("->") && !source.contains("::"));
        Matcher imports = Pattern.compile("import ([^;]+);").matcher(source);
        while (imports.find()) {
            due("import " + imports.group(1), Set.of("java.util.Arrays", "java.util.ArrayList", "java.util.List")
                .contains(imports.group(1)));
        }
        Matcher calls = Pattern.compile("\\b(Math|Integer|Long|Arrays|System)\\.(\\w+)").matcher(source);
        while (calls.find()) {
            due(calls.group(), Set.of("max", "min", "abs", "bitCount", "fill", "arraycopy").contains(calls.group(2)));
        }
        due("signs 1 to 127", source.chars().allMatch(c -> c < 128));
    }

    /** A method that calls itself by its bare name is private, and static but for Reader's, which call one another. */
    private static void recursion(String source) {
        Matcher heads = Pattern.compile("\\n( {4}| {8})((?:private |static |public )*)[\\w\\[\\]]+ (\\w+)\\([^)]*\\) \\{\\n").matcher(source);
        while (heads.find()) {
            String body = source.substring(heads.end(), source.indexOf("\n" + heads.group(1) + "}", heads.end()) + 1);
            boolean calls = Pattern.compile("(?<![\\w.])" + heads.group(3) + "\\(").matcher(body).find();
            boolean can = heads.group(2).contains("private static") || heads.group(3).equals("piece");
            due(heads.group(3) + " calls itself", !calls || can);
        }
    }

    private static void lengths(String source) {
        String[] lines = source.split("\n");
        int begun = -1;
        String indent = "";
        for (int i = 0; i < lines.length; i++) {
            Matcher head = Pattern.compile("( {4}| {8})[a-zA-Z].*\\) \\{").matcher(lines[i]);
            if (begun < 0 && head.matches()) {
                begun = i;
                indent = head.group(1);
            } else if (begun >= 0 && lines[i].equals(indent + "}")) {
                due("a short method: " + lines[begun].trim(), i - begun < 60);
                begun = -1;
            }
            due("a short line: " + (i + 1), lines[i].length() <= 130);
        }
    }
}

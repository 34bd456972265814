import java.lang.reflect.Method;
import java.nio.charset.StandardCharsets;
import java.nio.file.Files;
import java.nio.file.Path;
import java.util.regex.Matcher;
import java.util.regex.Pattern;

/** The run that README.md shows: each call there answers what stands behind it. */
public final class ReadmeTest extends Calls {
    private static final Pattern CALL = Pattern.compile("tree\\.(\\w+)\\((.*)\\); +// (-?\\w+)(: .*)?");
    private static final Pattern TEXT = Pattern.compile("feed\\(tree, \"([^\"]*)\"\\)");

    private static LandingTree tree;

    public static void main(String[] args) throws Exception {
        String page = Files.readString(Path.of("README.md"), StandardCharsets.UTF_8);
        for (String line : page.split("\n")) {
            if (line.equals("LandingTree tree = new LandingTree();")) {
                about("a run in README.md");
                tree = new LandingTree();
            }
            Matcher call = CALL.matcher(line);
            if (call.matches()) {
                due(line, answer(call.group(1), call.group(2)), worth(call.group(3)));
            } else if (line.startsWith("tree.")) {
                due("a call and its answer: " + line, false, true);
            }
        }
        end();
    }

    private static long answer(String name, String words) throws Exception {
        Matcher text = TEXT.matcher(words);
        String told = text.find() ? text.replaceFirst(String.valueOf(feed(tree, text.group(1)))) : words;
        String[] all = told.isEmpty() ? new String[0] : told.split(", ");
        Method method = named(name);
        Object[] given = new Object[all.length];
        for (int i = 0; i < all.length; i++) {
            boolean isNumber = method.getParameterTypes()[i] == int.class;
            given[i] = isNumber ? (Object) (int) worth(all[i]) : (Object) all[i].equals("true");
        }
        return worth(String.valueOf(method.invoke(tree, given)));
    }

    private static Method named(String name) {
        for (Method method : LandingTree.class.getMethods()) {
            if (method.getName().equals(name)) {
                return method;
            }
        }
        throw new IllegalStateException("no such call: " + name);
    }

    private static long worth(String word) {
        if (word.equals("true") || word.equals("false")) {
            return word.equals("true") ? 1 : 0;
        }
        return word.equals("LandingTree.NONE") ? LandingTree.NONE : Long.decode(word);
    }
}

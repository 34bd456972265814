import java.io.IOException;
import java.nio.charset.StandardCharsets;
import java.nio.file.Files;
import java.nio.file.Path;
import java.util.Collections;

/** What the tests tell a LandingTree with, and how they say which answers were not the ones that are due. */
abstract class Calls {
    static final long NO_POT = -1000000000000L;

    private static String about = "";
    private static String document = "";
    private static int tests;
    private static int asked;
    private static int wrong;

    /** What is asked from here on is about this. */
    static void about(String what) {
        about = what;
        tests++;
    }

    /** Likewise, about this sentence of the document: it must stand there, word for word (if the document is at hand). */
    static void sentence(String text) {
        about(text);
        Path path = Path.of("../shared/DOC.md");
        if (document.isEmpty() && Files.exists(path)) {
            document = oneLine(read(path));
        }
        if (!document.isEmpty() && !document.contains(oneLine(text))) {
            wrong++;
            System.out.println("not in the document: " + text);
        }
    }

    private static String read(Path path) {
        try {
            return Files.readString(path, StandardCharsets.UTF_8);
        } catch (IOException e) {
            throw new IllegalStateException(e);
        }
    }

    private static String oneLine(String text) {
        return text.replaceAll("\\s+", " ").trim();
    }

    static void due(String what, long got, long want) {
        asked++;
        if (got != want) {
            wrong++;
            System.out.println(about + ": " + what + ": " + got + ", due is " + want);
        }
    }

    static void due(String what, boolean got, boolean want) {
        due(what, got ? 1 : 0, want ? 1 : 0);
    }

    /** Ends the test, with 1 if an answer was not as due. */
    static void end() {
        System.out.println(tests + " tests, " + asked + " answers, " + wrong + " not as due");
        if (wrong != 0 || tests == 0) {
            System.exit(1);
        }
    }

    static void feed(LandingTree tree, int... bytes) {
        for (int from = 0; from < bytes.length; from += 20) {
            int[] n = new int[5];
            for (int i = 0; i < 20; i++) {
                n[i / 4] = n[i / 4] << 8 | (from + i < bytes.length ? bytes[from + i] : 0);
            }
            tree.feed(n[0], n[1], n[2], n[3], n[4]);
        }
    }

    static int feed(LandingTree tree, String text) {
        feed(tree, text.chars().toArray());
        return text.length();
    }

    static int law(LandingTree tree, String text) {
        return tree.law(feed(tree, text));
    }

    static int rule(LandingTree tree, int k, String text) {
        return tree.rule(k, feed(tree, text));
    }

    static int rota(LandingTree tree, int l, String text, int what) {
        return tree.rota(l, feed(tree, text), what);
    }

    /** A PLANT of 10 CUPS, as WET as told, and a PERSON 0 that always comes. */
    static LandingTree landing(String law, String rule, int wet, int bears) {
        LandingTree tree = new LandingTree();
        law(tree, law);
        rule(tree, 0, rule);
        tree.plant(0, 10, wet, bears);
        tree.person(0, 10, 0);
        return tree;
    }

    /** What PERSON 0 would give by this RULE. */
    static int given(String rule) {
        return landing("e1(1=1)", rule, 5, 3).gives(0, 0);
    }

    static String times(int n, String text, String between) {
        return String.join(between, Collections.nCopies(n, text));
    }

    /** The X that stands behind so many DRAWS. */
    static int drawn(int x, int times) {
        for (int i = 0; i < times; i++) {
            x = (int) ((25173L * x + 13849L) % 65536L);
        }
        return x;
    }
}

import java.lang.management.ManagementFactory;
import java.lang.reflect.Array;
import java.lang.reflect.Field;
import java.lang.reflect.Modifier;
import java.util.ArrayList;
import java.util.Collections;
import java.util.IdentityHashMap;
import java.util.List;
import java.util.Set;

/** All calls of one run live in one room: what a new object takes of it, and that calls take nothing more. */
public final class RoomTest {
    private static final int OBJECTS = 600000;
    private static final int ELEMENTS = 7300000;
    private static final int CALLS = 512;

    public static void main(String[] args) throws Exception {
        long[] size = size(new LandingTree());
        System.out.println("a new object: " + size[0] + " objects and arrays, " + size[1] + " fields and elements");
        boolean fits = size[0] * CALLS < OBJECTS && size[1] * CALLS < ELEMENTS;
        for (int i = 0; i < 3; i++) {
            calls(new LandingTree());
        }
        LandingTree tree = new LandingTree();
        com.sun.management.ThreadMXBean bean = (com.sun.management.ThreadMXBean) ManagementFactory.getThreadMXBean();
        long thread = Thread.currentThread().getId();
        long none = bean.getThreadAllocatedBytes(thread);
        none = bean.getThreadAllocatedBytes(thread) - none;
        long before = bean.getThreadAllocatedBytes(thread);
        calls(tree);
        long taken = bean.getThreadAllocatedBytes(thread) - before - none;
        System.out.println("its calls: " + taken + " bytes");
        if (!fits || taken > 4096) {
            System.exit(1);
        }
    }

    /** Texts of 20 bytes each: feed's five ints are made ahead of the call. */
    private static final int[] LAW = bytes("e1(1=1);h1(1=1|d=7))");
    private static final int[] RULE = bytes("g2(f<5&a>0);g[q+1]/2");
    private static final int[] REST = bytes("(t>w);g1(!o=f)aaaaaa");
    private static final int[] ROTA = bytes("2a3b2./7a/a2b4.aaaaa");

    private static int[] bytes(String text) {
        int[] n = new int[5];
        for (int i = 0; i < 20; i++) {
            n[i / 4] = n[i / 4] << 8 | text.charAt(i);
        }
        return n;
    }

    private static void feed(LandingTree tree, int[] n) {
        tree.feed(n[0], n[1], n[2], n[3], n[4]);
    }

    private static void calls(LandingTree tree) {
        feed(tree, LAW);
        tree.law(19);
        feed(tree, RULE);
        feed(tree, REST);
        tree.rule(0, 34);
        for (int l = 0; l < 4; l++) {
            tree.plant(l, 10 + l, 4 + l, 4);
            tree.card(l, true);
        }
        for (int p = 0; p < 8; p++) {
            tree.person(p, 2 + p, 0);
        }
        tree.keep();
        tree.days(2);
        for (int what = 0; what < 50; what++) {
            tree.tried(9, what);
            tree.plantIs(1, what);
            tree.count(what);
            tree.share(what, 0);
        }
        for (int m = 1; m < 4; m++) {
            tree.exactly(0, 4, m, 3);
            tree.chance(0, 4, m, 0);
            tree.toAsk(0, 4, m, 0);
            tree.few(0, 4, m, 5);
            tree.pot(0, 4, m, 20);
            tree.ruleFor(0, 4, m, 3, 0);
            tree.movesOut(0, 4, m, 0);
            tree.week(0, m, 10);
        }
        for (int cups = 0; cups < 25; cups++) {
            tree.lasts(0, cups);
            tree.needs(0, cups);
            tree.spread(cups, 10);
            tree.pour(3, cups);
            tree.gives(0, 0);
            feed(tree, ROTA);
            tree.rota(0, 15, cups);
            feed(tree, LAW);
            tree.whoDid(6, 31, 3, 1, 0);
            feed(tree, ROTA);
            tree.comes(12, 3, 0);
            feed(tree, ROTA);
            tree.can(6, 3, 3, 0);
            tree.alone(6, 0);
            tree.alone(6, 2);
            feed(tree, ROTA);
            tree.check(0, 5);
        }
        tree.undo();
        tree.seed(7);
    }

    private static long[] size(Object root) throws Exception {
        Set<Object> seen = Collections.newSetFromMap(new IdentityHashMap<>());
        List<Object> open = new ArrayList<>(List.of(root));
        seen.add(root);
        long elements = 0;
        while (!open.isEmpty()) {
            Object one = open.remove(open.size() - 1);
            List<Object> inside = new ArrayList<>();
            if (one.getClass().isArray()) {
                elements += Array.getLength(one);
                for (int i = 0; one instanceof Object[] && i < Array.getLength(one); i++) {
                    inside.add(Array.get(one, i));
                }
            } else {
                for (Field field : one.getClass().getDeclaredFields()) {
                    if (!Modifier.isStatic(field.getModifiers())) {
                        elements++;
                        field.setAccessible(true);
                        inside.add(field.getType().isPrimitive() ? null : field.get(one));
                    }
                }
            }
            for (Object next : inside) {
                if (next != null && seen.add(next)) {
                    open.add(next);
                }
            }
        }
        return new long[] {seen.size(), elements};
    }
}

import java.util.ArrayList;
import java.util.List;

/** The paragraph ahead of the constants: what a refused call leaves as it was, and which answer is told first. */
public final class RefusedTest extends Calls {
    private static final String LAW = "e1(d<9);h1(f>2);c2(p=0);b5(n>1);e2(1=1)";

    interface Call {
        long of(LandingTree tree);
    }

    record Named(String name, Call call) {
    }

    public static void main(String[] args) {
        refusedChangesNothing();
        tapeIsEmptied();
        askedChangesNothing();
        whatIsToldFirst();
        ownMemory();
        manyCalls();
        end();
    }

    /** All there is: a dead PLANT 2, a CARD, CUPS given, something KEPT, a LAW, RULES, a LAW's text on the tape. */
    private static LandingTree full() {
        LandingTree tree = new LandingTree();
        law(tree, "e1(l<3);e0(1=1);h1(1=1);c1(1=1);b3(1=1)");
        rule(tree, 0, "g2(f<6);g1(1=1)");
        rule(tree, 3, "gq%3(1=1)");
        tree.plant(0, 12, 6, 4);
        tree.plant(1, 10, 9, 9);
        tree.plant(2, 4, 0, 1);
        tree.card(0, true);
        tree.person(0, 10, 0);
        tree.person(1, 4, 3);
        tree.person(5, 6, 0);
        rule(tree, 1, "g0(1=1)");
        tree.person(0, 10, 1);
        tree.days(1);
        tree.keep();
        tree.person(0, 10, 0);
        tree.days(3);
        tree.person(7, 3, 1);
        feed(tree, LAW);
        return tree;
    }

    /** All that can be asked of it, one behind the other. */
    private static List<Long> view(LandingTree tree) {
        List<Long> all = new ArrayList<>();
        state(tree, all);
        for (int what = 0; what < 30; what++) {
            all.add((long) tree.tried(7, what));
        }
        for (int l = 0; l < 4; l++) {
            for (int n = 0; n < 4; n++) {
                all.add(tree.exactly(l, 3, 2, n + 3));
                all.add(tree.chance(l, n, 1, 1));
                all.add((long) tree.gives(n, l));
                all.add((long) tree.lasts(l, n));
                all.add((long) tree.week(l, 1, n + 8));
            }
        }
        all.add((long) tree.alone(3, 0));
        all.add((long) tree.law(LAW.length()));
        all.add((long) tree.count(4));
        for (int times = 0; times < 2; times++) {
            all.add(tree.undo() ? 1L : 0L);
            state(tree, all);
            all.add((long) tree.days(9));
            state(tree, all);
        }
        return all;
    }

    private static void state(LandingTree tree, List<Long> all) {
        for (int what = -1; what < 60; what++) {
            all.add((long) tree.count(what));
            for (int l = 0; l < 4; l++) {
                all.add((long) tree.plantIs(l, what));
            }
        }
    }

    private static long is(boolean answer) {
        return answer ? 1 : 0;
    }

    private static List<Named> refused() {
        List<Named> all = new ArrayList<>();
        int[][] plants = {{-1, 10, 5, 3}, {4, 10, 5, 3}, {0, 3, 3, 3}, {0, 25, 5, 3}, {0, 10, -1, 3}, {0, 10, 11, 3}, {0, 10, 5, 0},
            {0, 10, 5, 10}};
        for (int[] x : plants) {
            all.add(new Named("plant", t -> is(t.plant(x[0], x[1], x[2], x[3]))));
        }
        int[][] people = {{-1, 5, 0}, {8, 5, 0}, {0, -1, 0}, {0, 11, 0}, {0, 5, -1}, {0, 5, 4}};
        for (int[] x : people) {
            all.add(new Named("person", t -> is(t.person(x[0], x[1], x[2]))));
        }
        all.add(new Named("card is", t -> is(t.card(0, true))));
        all.add(new Named("no card is", t -> is(t.card(1, false))));
        int[][] none = {{-1, 1}, {3, 1}, {4, 1}};
        for (int[] x : none) {
            all.add(new Named("card", t -> is(t.card(x[0], true))));
            all.add(new Named("card", t -> is(t.card(x[0], false))));
            all.add(new Named("pour", t -> t.pour(x[0], x[1])));
            all.add(new Named("lasts", t -> t.lasts(x[0], x[1])));
            all.add(new Named("needs", t -> t.needs(x[0], x[1])));
            all.add(new Named("gives", t -> t.gives(0, x[0])));
            all.add(new Named("week", t -> t.week(x[0], 1, 0)));
            all.add(new Named("exactly", t -> t.exactly(x[0], 1, 1, 0)));
            all.add(new Named("check", t -> t.check(x[0], 1)));
            all.add(new Named("rota", t -> t.rota(x[0], 2, 0)));
        }
        int[][] dead = {{2, 1}, {0, -1}, {0, 25}};
        for (int[] x : dead) {
            all.add(new Named("pour", t -> t.pour(x[0], x[1])));
            all.add(new Named("lasts", t -> t.lasts(x[0], x[1])));
        }
        all.addAll(refusedNumbers());
        return all;
    }

    private static List<Named> refusedNumbers() {
        List<Named> all = new ArrayList<>();
        for (int n : new int[] {-1, 0, 61, 201, 1000, Integer.MAX_VALUE, Integer.MIN_VALUE}) {
            all.add(new Named("days " + n, t -> t.days(n)));
            all.add(new Named("tried " + n, t -> t.tried(n, 0)));
            all.add(new Named("needs " + n, t -> t.needs(0, n)));
            all.add(new Named("law " + n, t -> t.law(n)));
            all.add(new Named("rule " + n, t -> t.rule(0, n)));
            all.add(new Named("rota " + n, t -> t.rota(0, n, 0)));
            all.add(new Named("comes " + n, t -> t.comes(n, 0, 0)));
            all.add(new Named("can " + n, t -> t.can(n, 1, 0, 0)));
            all.add(new Named("whoDid " + n, t -> t.whoDid(n, 1, 1, 1, 0)));
            all.add(new Named("alone " + n, t -> t.alone(n, 0)));
            all.add(new Named("exactly " + n, t -> t.exactly(0, n, 1, 0)));
            all.add(new Named("movesOut " + n, t -> t.movesOut(0, 1, n, 0)));
        }
        for (int what : new int[] {-2, 8, 99, Integer.MAX_VALUE, Integer.MIN_VALUE}) {
            all.add(new Named("rota " + what, t -> t.rota(0, 2, what)));
            all.add(new Named("comes " + what, t -> t.comes(2, 0, what)));
            all.add(new Named("comes so many " + what, t -> t.comes(2, what > 0 ? what + 5 : what, 0)));
            all.add(new Named("can " + what, t -> t.can(2, 1, 0, what)));
            all.add(new Named("whoDid " + what, t -> t.whoDid(2, 1, 1, 1, what)));
            all.add(new Named("week " + what, t -> t.week(0, 1, what)));
            all.add(new Named("spread " + what, t -> t.spread(3, what)));
            all.add(new Named("share " + what, t -> t.share(0, what)));
            all.add(new Named("rule " + what, t -> t.rule(what, 2)));
        }
        all.add(new Named("law", t -> t.law(41)));
        all.add(new Named("rule", t -> t.rule(0, 41)));
        all.add(new Named("rota", t -> t.rota(0, 41, 0)));
        all.add(new Named("seed", t -> is(t.seed(-1))));
        all.add(new Named("seed", t -> is(t.seed(65536))));
        all.add(new Named("check -1", t -> t.check(0, -1)));
        all.add(new Named("check 8", t -> t.check(0, 8)));
        return all;
    }

    private static void refusedChangesNothing() {
        sentence("A call that is refused (NONE, false) changes nothing but the tape, where it is told.");
        List<Long> before = view(full());
        for (Named one : refused()) {
            LandingTree tree = full();
            long answer = one.call().of(tree);
            boolean told = answer == -1 || answer == 0 || one.name().startsWith("check") && answer == -2;
            due(one.name() + " is refused: " + answer, told, true);
            due(one.name() + " changes nothing", view(tree).equals(before), true);
        }
        LandingTree tree = full();
        for (int i = 0; i < 9; i++) {
            tree.feed(0, 0, 0, 0, 0);
        }
        due("a tape that is full", tree.feed(1, 1, 1, 1, 1), -1);
        due("no less of it", tree.count(5), 220);
        due("its first bytes", tree.law(LAW.length()), 5);
        tree = new LandingTree();
        due("nothing KEPT", tree.undo(), false);
        due("nothing happens", tree.count(6), 1);
    }

    /** Each of these is not refused, so the tape is empty behind it; nothing else is changed but where that is told. */
    private static void tapeIsEmptied() {
        sentence("All memory is the landing's own. A call that is refused (NONE, false) changes nothing but the tape");
        LandingTree empty = full();
        empty.check(0, 0);
        List<Long> due = view(empty);
        List<Named> all = new ArrayList<>();
        all.add(new Named("a FAULT of THE LAW", t -> t.law(3)));
        all.add(new Named("a FAULT of a RULE", t -> t.rule(0, 7)));
        all.add(new Named("a FAULT of a ROTA", t -> t.rota(0, 3, 0)));
        all.add(new Named("a byte above 10", t -> t.comes(2, 0, 0)));
        all.add(new Named("a byte above 10", t -> t.can(2, 1, 0, 0)));
        all.add(new Named("whoDid", t -> t.whoDid(2, 1, 1, 1, 0)));
        all.add(new Named("check", t -> t.check(0, 7)));
        all.add(new Named("check of a dead one", t -> t.check(2, 1)));
        for (Named one : all) {
            LandingTree tree = full();
            one.call().of(tree);
            due(one.name() + ": empty then", tree.count(5), 0);
            due(one.name() + ": else as it was", view(tree).equals(due), true);
        }
    }

    private static void askedChangesNothing() {
        sentence("TRIED are n DAYS by the DRAWS that will come.");
        List<Long> before = view(full());
        List<Named> all = new ArrayList<>();
        for (int what : new int[] {0, 1, 2, 3, 10, 11, 20, 25}) {
            all.add(new Named("tried", t -> t.tried(60, what)));
        }
        for (int l = 0; l < 2; l++) {
            int of = l;
            all.add(new Named("exactly", t -> t.exactly(of, 3, 3, 4)));
            all.add(new Named("chance", t -> t.chance(of, 3, 2, 0)));
            all.add(new Named("toAsk", t -> t.toAsk(of, 3, 3, 0)));
            all.add(new Named("few", t -> t.few(of, 3, 3, 5)));
            all.add(new Named("pot", t -> t.pot(of, 3, 3, 5)));
            all.add(new Named("ruleFor", t -> t.ruleFor(of, 3, 3, 5, 0)));
            all.add(new Named("lasts", t -> t.lasts(of, 5)));
            all.add(new Named("needs", t -> t.needs(of, 50)));
            all.add(new Named("week", t -> t.week(of, 3, 10)));
            all.add(new Named("movesOut", t -> t.movesOut(of, 3, 3, 0)));
            all.add(new Named("spread", t -> t.spread(20, of)));
            all.add(new Named("share", t -> t.share(of, 1)));
            all.add(new Named("gives", t -> t.gives(of, of)));
        }
        all.add(new Named("alone", t -> t.alone(6, 2)));
        all.add(new Named("the one", t -> t.share(-1, 0)));
        for (Named one : all) {
            LandingTree tree = full();
            long first = one.call().of(tree);
            due(one.name() + " answers the same again", one.call().of(tree), first);
            due(one.name() + " changes nothing", view(tree).equals(before), true);
        }
        LandingTree tree = full();
        for (Named one : all) {
            one.call().of(tree);
        }
        due("all of them change nothing", view(tree).equals(before), true);
    }

    private static void whatIsToldFirst() {
        sentence("Where several of these fit one call NONE (or what is told in its place) is told first, then a FAULT, then -2, then -3 "
            + "and so on (but where a call tells otherwise).");
        LandingTree tree = full();
        due("no such PERSON, no card", tree.plantIs(3, 6), -1);
        due("rota: no such what, a FAULT", tree.rota(0, 2, 3), -1);
        due("rota: dead, a FAULT", tree.rota(2, 2, 1), -1);
        due("rule: no such RULE, a FAULT", tree.rule(4, 2), -1);
        due("law: not so many, a FAULT", tree.law(41), -1);
        due("rota: a FAULT, it lives", tree.rota(0, 2, 1), -7000);
        feed(tree, 11, 11);
        due("comes: no such what, above 10", tree.comes(2, 0, 2), -1);
        due("comes: not so many, above 10", new LandingTree().comes(1, 0, 0), -1);
        due("can: no such need, above 10", tree.can(2, 1, 61, 0), -1);
        due("whoDid: no such what, none fits", tree.whoDid(1, 1, 1, 1, 3), -1);
        due("toAsk: no such PLANT, nobody", tree.toAsk(3, 1, 1, 0), -1);
        due("few: no such tenths, not by m", tree.few(0, 1, 1, 11), -1);
        due("needs: no such DAYS, by none", tree.needs(0, 61), -1);
        due("pot: its own number", tree.pot(0, 1, 1, 25), NO_POT);
        due("pot: its own number", tree.pot(2, 1, 1, 5), NO_POT);
        due("share: no such what, nobody", new LandingTree().share(-1, 1), -1);
        due("spread: no such what, none is told", new LandingTree().spread(0, 4), -1);
        due("spread: no such cups, none is told", new LandingTree().spread(25, 10), -1);
        due("alone: no such n, by none", tree.alone(7, 2), -1);
        // By no row, on a DAY on which nobody comes
        tree = new LandingTree();
        law(tree, "e9(1=1)");
        tree.plant(0, 4, 0, 1);
        tree.person(0, 0, 0);
        due("week: no such what, by no row", tree.week(0, 1, 7), -1);
        due("week: not so many told, by no row", tree.week(0, 2, 0), -1);
        due("week: -2 ahead of -3", tree.week(0, 1, 0), -2);
        due("plantIs: -2, no card", tree.plantIs(0, 6), -2);
        due("check: -2 stands in NONE's place", tree.check(0, 8), -2);
    }

    private static void ownMemory() {
        sentence("All memory is the landing's own.");
        List<Long> due = view(full());
        LandingTree one = full();
        LandingTree other = new LandingTree();
        other.plant(0, 24, 24, 1);
        other.person(0, 0, 3);
        law(other, "e9(1=1)");
        rule(other, 0, "g9(1=1)");
        feed(other, "other bytes");
        other.keep();
        other.days(60);
        due("others do not change it", view(one).equals(due), true);
        LandingTree fresh = new LandingTree();
        for (int what = 0; what < 14; what++) {
            due("a new one, " + what, fresh.count(what), what == 6 ? 1 : what > 6 && what < 10 ? -1 : 0);
        }
    }

    private static void manyCalls() {
        sentence("An object is used for at most 512 calls after it has been made");
        LandingTree tree = new LandingTree();
        law(tree, "e1(1=1)");
        tree.plant(0, 24, 12, 9);
        tree.person(0, 10, 0);
        int days = 0;
        int calls = 4;
        for (int i = 0; calls < 500; i++) {
            String text = "g" + i % 3 + "(1=1)";
            tree.feed(text.charAt(0) << 24 | text.charAt(1) << 16 | '(' << 8 | '1', '=' << 24 | '1' << 16 | ')' << 8, 0, 0, 0);
            due("a RULE", tree.rule(0, 7), 1);
            due("CUPS", tree.days(1), i % 3);
            due("X", tree.count(6), drawn(1, 2 * (i + 1)));
            tree.keep();
            tree.days(60);
            tree.undo();
            due("THE DAY", tree.count(0), i + 1);
            days++;
            calls += 8;
        }
        while (calls < 511) {
            calls++;
            tree.gives(0, 0);
        }
        due("the 512th", tree.count(0), days);
    }
}

/** For each promise of the document: ordinary calls, the edges that it names, and wrong ones; reckoned by hand. */
public final class PromisesTest extends Calls {
    public static void main(String[] args) {
        Runnable[] all = {
            PromisesTest::aNewObject, PromisesTest::plant, PromisesTest::person, PromisesTest::card,
            PromisesTest::pour, PromisesTest::feed, PromisesTest::law, PromisesTest::rule, PromisesTest::days,
            PromisesTest::tried, PromisesTest::plantIs, PromisesTest::gives, PromisesTest::exactly,
            PromisesTest::chance, PromisesTest::toAsk, PromisesTest::few, PromisesTest::pot, PromisesTest::ruleFor,
            PromisesTest::lasts, PromisesTest::needs, PromisesTest::week, PromisesTest::movesOut,
            PromisesTest::spread, PromisesTest::comes, PromisesTest::share, PromisesTest::rota, PromisesTest::alone,
            PromisesTest::whoDid, PromisesTest::can, PromisesTest::seed, PromisesTest::keep, PromisesTest::undo,
            PromisesTest::check, PromisesTest::count
        };
        for (int i = 0; i < all.length; i++) {
            about("promise " + (i + 1));
            all[i].run();
        }
        end();
    }

    // ---- the promises

    private static void aNewObject() {
        LandingTree tree = new LandingTree();
        for (int what = 0; what <= 5; what++) {
            due("count(" + what + ")", tree.count(what), 0);
        }
        due("X", tree.count(6), 1);
        for (int k = 0; k < 4; k++) {
            due("CLAUSES", tree.count(10 + k), 0);
            due("no PLANT", tree.plantIs(k, 0), -1);
        }
        due("no PERSON", tree.count(20), -1);
        due("nothing KEPT", tree.undo(), false);
        due("NONE", LandingTree.NONE, -1);
    }

    private static void plant() {
        LandingTree tree = landing("e1(1=1)", "g2(1=1)", 5, 3);
        int[][] none = {{-1, 4, 0, 1}, {4, 4, 0, 1}, {0, 3, 0, 1}, {0, 25, 0, 1}, {0, 4, -1, 1}, {0, 4, 5, 1},
            {0, 4, 0, 0}, {0, 4, 0, 10}};
        for (int[] x : none) {
            due("none such", tree.plant(x[0], x[1], x[2], x[3]), false);
        }
        due("as it was", tree.plantIs(0, 0), 10);
        due("the greatest", tree.plant(3, 24, 24, 9), true);
        due("the least", tree.plant(1, 4, 0, 1), true);
        tree.card(0, true);
        tree.days(2);
        due("CARD", tree.plantIs(0, 6), 1);
        due("in place of it", tree.plant(0, 12, 7, 4), true);
        int[] due = {12, 7, 4, 0, 0, 0, -2};
        for (int what = 0; what < 7; what++) {
            due("plantIs " + what, tree.plantIs(0, what), due[what]);
        }
        for (int k = 0; k < 7; k++) {
            due("LOOKS", tree.plantIs(0, 10 + k), 7);
        }
    }

    private static void person() {
        LandingTree tree = landing("e1(1=1)", "g2(1=1)", 5, 3);
        int[][] none = {{-1, 0, 0}, {8, 0, 0}, {0, -1, 0}, {0, 11, 0}, {0, 0, -1}, {0, 0, 4}};
        for (int[] x : none) {
            due("none such", tree.person(x[0], x[1], x[2]), false);
        }
        due("as it was", tree.count(20), 10);
        tree.days(1);
        due("CUPS", tree.count(40), 2);
        due("in place of it", tree.person(0, 3, 2), true);
        due("tenths", tree.count(20), 3);
        due("RULE", tree.count(30), 2);
        due("no CUPS", tree.count(40), 0);
        due("the last", tree.person(7, 10, 3), true);
        due("bits", tree.count(3), 129);
    }

    private static void card() {
        LandingTree tree = landing("e1(1=1)", "g2(d<3)", 5, 3);
        due("not told", tree.card(1, true), false);
        due("no PLANT", tree.card(-1, true), false);
        due("no PLANT 4", tree.card(4, false), false);
        due("none yet", tree.card(0, false), false);
        due("a CARD", tree.card(0, true), true);
        due("it is so", tree.card(0, true), false);
        due("nothing on it", tree.plantIs(0, 6), -3);
        tree.days(5);
        due("the last with CUPS", tree.plantIs(0, 6), 2);
        tree.pour(0, 1);
        due("poured by nobody", tree.plantIs(0, 6), 2);
        due("taken", tree.card(0, false), true);
        due("no CARD", tree.plantIs(0, 6), -2);
        tree.card(0, true);
        due("nothing on the new one", tree.plantIs(0, 6), -3);
    }

    private static void pour() {
        LandingTree tree = landing("e5(1=1)", "g0(1=1)", 5, 2);
        due("no PLANT", tree.pour(1, 0), -1);
        due("none such", tree.pour(0, -1), -1);
        due("too much", tree.pour(0, 25), -1);
        tree.days(1);
        due("DRY", tree.plantIs(0, 3), 1);
        due("nothing", tree.pour(0, 0), 0);
        due("some", tree.pour(0, 3), 3);
        due("DRY till a DAY ends", tree.plantIs(0, 3), 1);
        due("LOOKS as they were", tree.plantIs(0, 10), 0);
        due("nobody's", tree.count(40), 0);
        due("runs over", tree.pour(0, 24), 10);
        due("not DROWNED", tree.plantIs(0, 4), 0);
        tree.plant(0, 10, 0, 1);
        tree.days(1);
        due("dead", tree.pour(0, 1), -1);
        due("as it was", tree.plantIs(0, 1), 0);
    }

    private static void feed() {
        LandingTree tree = new LandingTree();
        for (int i = 1; i <= 11; i++) {
            due("feed", tree.feed(i, 0, 0, 0, 0), 20 * i);
        }
        due("too many", tree.feed(1, 2, 3, 4, 5), -1);
        due("as it was", tree.count(5), 220);
        tree.plant(0, 24, 1, 1);
        due("the first first", tree.check(0, 1), -1);
        tree.feed(0x0a050000, 0, 0, 0, 0);
        due("the highest byte first", tree.comes(1, 1, 0), 1);
        tree.feed(1, -1, 3, 4, 5);
        due("all bits", tree.check(0, 2), 1);
    }

    private static void law() {
        LandingTree tree = new LandingTree();
        Object[][] texts = {
            {"e5(d=0)", 1}, {"e5(d=0);h1(1=1);c3(1=1);b9(n>2)", 4}, {"e12345(99999=0)", 1}, {"e[[[[[[1]]]]]](d=0)", 1},
            {"e1(!!!!!d=0)", 1}, {"e1(!!!!!d=0&(((((d=0))))))", 1}, {"e1([[[[[1]]]]]=1)", 1}, {"e1(!(d=0|d=1)&d>1)", 1},
            {"e1(dwlofsyzptnaq=1)", -1004}, {"ed+w-l*o/f%s(y+z=p|t<n&a>q)", 1}, {times(14, "e1(1=1)", ";"), 14},
            {"e", -1001}, {"g1(1=1)", -1000}, {"E1(1=1)", -1000}, {"e(1=1)", -1001}, {"e-1(1=1)", -1001},
            {"e1 (1=1)", -1002}, {"e1+(1=1)", -1003}, {"e1]", -1002}, {"e[1(1=1)", -1003}, {"e1()", -1003},
            {"e1(d)", -1004}, {"e1(d=)", -1005}, {"e1(d=0", -1006}, {"e1(d==0)", -1005}, {"e1(d=0=0)", -1006},
            {"e1(d=0)x", -1007}, {"e1(d=0);", -1008}, {"e1(d=0);;", -1008}, {"e1(d=0))", -1007}, {"e1(d=0&)", -1007},
            {"e1(|d=0)", -1003}, {"e1((d)=0)", -1005}, {"e1(!)", -1004}, {"e1([d=0])", -1005}, {"e1(h=0)", -1003},
            {"e123456(d=0)", -2006}, {"e1(1234567=0)", -2008}, {"e1((((((d=0))))))", 1}, {"e1(((((((d=0", -5008},
            {"e1(!!!!!!d=0)", -5008}, {"e1(!!!!!(d=0))", -5008}, {"e1(!!!!![d]=0)", -5008}, {"e[[[[[[[1", -5007},
            {"e1(d(((((((", -1004}, {times(14, "e1(1=1)", ";") + ";h", -4112}, {times(14, "e1(1=1)", ";") + ";g", -1112},
            {times(14, "e1(1=1)", ";") + ";", -1112}, {"e1(\u00e9=1)", -1003}
        };
        for (Object[] text : texts) {
            due((String) text[0], law(tree, (String) text[0]), (Integer) text[1]);
            due("empty then", tree.count(5), 0);
        }
        law(tree, "e5(d=0);h1(1=1)");
        law(tree, "e5(d=0);h1(1=1");
        due("the one before stays", tree.count(4), 2);
        feed(tree, "e5(d=0)");
        due("n", tree.law(0), -1);
        due("n", tree.law(201), -1);
        due("not so many", tree.law(21), -1);
        due("the tape stays", tree.count(5), 20);
        due("the first of them", tree.law(7), 1);
        String longest = "e1(" + times(97, "1", "+") + "=10)";
        due("200 bytes", longest.length() + law(tree, longest), 201);
        tree = landing("e1(d=0);e2(d=1);e12(d=2);e0-3(d=3);h5(1=1)", "g0(1=1)", 10, 9);
        int[] wet = {9, 7, 0};
        tree.seed(19417);
        for (int day = 0; day < 2; day++) {
            LandingTree other = landing("e1(d=0);e2(d=1);e12(d=2);e0-3(d=3)", "g0(1=1)", 10, 9);
            other.days(day + 1);
            due("the first that holds", other.plantIs(0, 1), wet[day]);
        }
        LandingTree bounds = landing("e12(d=0);e0-3(d=1)", "g0(1=1)", 10, 9);
        bounds.days(1);
        due("9 at most", bounds.plantIs(0, 1), 1);
        bounds.days(1);
        due("0 at least", bounds.plantIs(0, 1), 1);
        bounds.days(1);
        due("none holds", bounds.plantIs(0, 1), 1);
    }

    private static void rule() {
        LandingTree tree = landing("e1(1=1)", "g2(1=1)", 5, 3);
        due("only g", rule(tree, 0, "e1(1=1)"), -1000);
        due("only g later", rule(tree, 0, "g1(1=1);e1(1=1)"), -1008);
        due("as it was", tree.gives(0, 0), 2);
        due("14", rule(tree, 3, times(14, "g1(1=1)", ";")), 14);
        due("a 15th", rule(tree, 3, times(15, "g1(1=1)", ";")), -4112);
        due("stays", tree.count(13), 14);
        feed(tree, "g1(1=1)");
        due("k", tree.rule(-1, 7), -1);
        due("k", tree.rule(4, 7), -1);
        due("n", tree.rule(0, 0), -1);
        due("n", tree.rule(0, 201), -1);
        due("not so many", tree.rule(0, 21), -1);
        due("the tape stays", tree.count(5), 20);
        due("1", tree.rule(1, 7), 1);
        due("of RULE 1", tree.count(11), 1);
        asks();
    }

    /** How TEXTS are reckoned, by what a RULE gives: PLANT 0 of 10 CUPS, 5 WET, THE DAY 0, PERSON 0. */
    private static void asks() {
        Object[][] rules = {
            {"g5(1=2)", 0}, {"g5(1=2);g4(1=1);g3(1=1)", 4}, {"g12(1=1)", 9}, {"g3-5(1=1)", 0}, {"g2+3*2(1=1)", 8},
            {"g[2+3]*2-4(1=1)", 6}, {"g9-4-3(1=1)", 2}, {"g17%5*3(1=1)", 6}, {"g8/3*2(1=1)", 4}, {"g7-2*3(1=1)", 1},
            {"g4/0(1=1);g3(1=1)", 0}, {"g4%0(1=1)", 0}, {"g5+0*[1/0](1=1)", 0}, {"g5(1/0=0);g3(1=1)", 3},
            {"g5(!1/0=0);g3(1=1)", 3}, {"g5(!(1%0=0));g3(1=1)", 3}, {"g5(1=1|1/0=0);g3(1=1)", 5},
            {"g5(1/0=0|1=1);g3(1=1)", 3}, {"g5(1=2&1/0=0|1=1);g3(1=1)", 5}, {"g5(1=2&1/0=0);g3(1=1)", 3},
            {"g5((1=1|1/0=1)&1=1);g3(1=1)", 5}, {"g5(1=1&(1=2|1/0=1)|1=1);g3(1=1)", 3}, {"g5(!(1=2&1/0=1));g3(1=1)", 5},
            {"g5(1=1|1=1&1=2);g3(1=1)", 5}, {"g5(1=2&1=1|1=2|1=1);g3(1=1)", 5}, {"g5(!1=1|1=2);g3(1=1)", 3},
            {"g5(!1=1&1=2|1=1);g3(1=1)", 5}, {"g5(!!1=1);g3(1=1)", 5}, {"g5(!(!1=1));g3(1=1)", 5}, {"g5(2>1);g3(1=1)", 5},
            {"g5(1>1);g3(1=1)", 3}, {"g5(1<1);g3(1=1)", 3}, {"g5(0-1<0);g3(1=1)", 5}, {"g5(50000*50000<0);g3(1=1)", 5},
            {"g5(65536*65536=0);g3(1=1)", 5}, {"g5([0-7]/2=0-3);g3(1=1)", 5}, {"g5([0-7]%3=0-1);g3(1=1)", 5},
            {"g5(65536*32768/[0-1]<0);g3(1=1)", 5}, {"g5(65536*32768%[0-1]=0);g3(1=1)", 5}, {"g00005(1=1)", 5}
        };
        for (Object[] one : rules) {
            due((String) one[0], given((String) one[0]), (Integer) one[1]);
        }
        letters();
    }

    /** PERSON 3 of 4 tenths and PLANT 2, on DAY 9: each letter is worth what it tells. */
    private static void letters() {
        LandingTree tree = landing("e1(1=1)", "g2(1=1)", 5, 9);
        tree.plant(2, 20, 19, 8);
        tree.person(3, 0, 1);
        tree.person(0, 0, 0);
        tree.days(9);
        tree.person(3, 10, 1);
        rule(tree, 1, "g2(1=1)");
        tree.card(2, true);
        tree.days(2);
        tree.person(0, 0, 0);
        tree.days(3);
        int[] due = {14, 0, 2, 20, 15, 11, 0, 0, 3, 10, 2, 1, 20};
        String letters = "dwlofsyzptnaq";
        for (int i = 0; i < letters.length(); i++) {
            rule(tree, 1, "g7(" + letters.charAt(i) + "=" + due[i] + ");g6(1=1)");
            due("letter " + letters.charAt(i), tree.gives(3, 2), 7);
        }
        rule(tree, 1, "g7(a=99&y>0);g6(1=1)");
        due("no CARD: a, y", tree.gives(3, 0), 6);
        tree.plant(0, 4, 0, 9);
        tree.person(3, 0, 1);
        tree.days(2);
        rule(tree, 1, "g7(a=99&y=2&z=0);g6(1=1)");
        due("no CARD: a; y", tree.gives(3, 0), 7);
        tree.card(0, true);
        due("nothing on it: a", tree.gives(3, 0), 7);
        law(tree, "e0(1=1)");
        tree.plant(0, 4, 4, 9);
        tree.days(2);
        rule(tree, 1, "g7(z=2&y=0);g6(1=1)");
        due("z", tree.gives(3, 0), 7);
        LandingTree other = landing("e9(p=1|t=1|t=10|q>0);e2(p=0&t=0&q=0&a=3);e1(1=1)", "g3(d=0);g0(1=1)", 5, 9);
        other.person(1, 10, 1);
        other.card(0, true);
        other.days(4);
        due("t, q, p are 0 in e, a is told", other.plantIs(0, 1), 5 + 3 - 3 - 2);
        other = landing("e1(1=1);c1+a+f+o+s+l+y+z+t+q(1=1);bp+n*10+d*100(1=1)", "g1(1=1)", 5, 9);
        other.days(2);
        due("of no PLANT in c", other.alone(2, 2), 9);
    }

    private static void days() {
        // The DRAWS behind the SEED 1: 2 7 6 5 2 9 6 7 2 9 6 1 0 9 4 3 4 3 4 3 0 7 0 5
        LandingTree tree = landing("e1(1=1);h2(1=1)", "g2(1=1)", 5, 3);
        tree.person(0, 3, 0);
        tree.card(0, true);
        due("n", tree.days(0), -1);
        due("n", tree.days(61), -1);
        due("five DAYS", tree.days(5), 6);
        int[] looks = {6, 5, 6, 5, 6, 5, 5};
        for (int k = 0; k < 7; k++) {
            due("LOOKS " + k, tree.plantIs(0, 10 + k), looks[k]);
        }
        due("CARD", tree.plantIs(0, 6), 4);
        due("THE DAY", tree.count(0), 5);
        due("CUPS", tree.count(40), 6);
        due("X", tree.count(6), 20919);
        due("five more", tree.days(5), 2);
        due("WET", tree.plantIs(0, 1), 0);
        due("DRY", tree.plantIs(0, 3), 2);
        due("two more", tree.days(2), 4);
        due("WET", tree.plantIs(0, 1), 2);
        due("not DRY", tree.plantIs(0, 3), 0);

        tree = landing("e1(1=1)", "g3-q+f(1=1)", 1, 9);
        tree.plant(1, 10, 2, 9);
        tree.person(2, 10, 1);
        rule(tree, 1, "gf(1=1)");
        due("by PLANTS, then by PEOPLE", tree.days(1), 4 + 1 + 5 + 3);
        due("PLANT 0", tree.plantIs(0, 1), 9);
        due("PLANT 1", tree.plantIs(1, 1), 5);

        tree = landing("e0(1=1)", "g5(1=1)", 8, 2);
        due("all of it counts", tree.days(1), 5);
        due("at the POT", tree.plantIs(0, 1), 10);
        due("DROWNED", tree.plantIs(0, 4), 1);
        due("not dead", tree.plantIs(0, 5), 0);
        tree.days(1);
        due("dead", tree.plantIs(0, 5), 1);
        int x = tree.count(6);
        due("nothing for a dead one", tree.days(1), 0);
        due("only the DRAW of the PERSON", tree.count(6), (25173 * x + 13849) % 65536);
        due("LOOKS of a dead one", tree.plantIs(0, 12), 8);

        tree = landing("e0(1=1)", "g0(1=1)", 5, 9);
        for (int i = 0; i < 166; i++) {
            tree.days(60);
        }
        due("THE DAY", tree.count(0), 9960);
        tree.days(60);
        due("9999 at most", tree.count(0), 9999);
        x = tree.count(6);
        due("none goes by", tree.days(1), 0);
        due("X stays", tree.count(6), x);
        due("none is tried", tree.tried(60, 3), 0);
    }

    private static void tried() {
        LandingTree tree = landing("e1(1=1);h2(1=1)", "g2(1=1)", 5, 2);
        tree.person(0, 3, 0);
        tree.person(5, 0, 1);
        int[] none = {-1, 4, 9, 11, 13, 14, 19, 21, 24, 26, 28};
        for (int what : none) {
            due("no such " + what, tree.tried(1, what), -1);
        }
        due("n", tree.tried(0, 0), -1);
        due("n", tree.tried(61, 0), -1);
        // Each DAY has a DRAW for PERSON 0, one for PERSON 5, one for the PLANT: 2 7 6, 5 2 9, 6 7 2, 9 6 1
        due("CUPS", tree.tried(3, 0), 2);
        due("WET", tree.tried(3, 10), 5 + 2 - 1 - 1 - 3);
        due("sunny", tree.tried(3, 3), 1);
        due("sunny, two DAYS", tree.tried(2, 3), 0);
        due("sunny, four", tree.tried(4, 3), 2);
        due("of PERSON 0", tree.tried(3, 20), 2);
        due("of PERSON 5", tree.tried(3, 25), 0);
        due("DRY on the fourth DAY", tree.tried(4, 2), 0);
        due("dead behind the fifth", tree.tried(5, 2), 1);
        due("of a dead one no DRAW for the sun", tree.tried(6, 3), 3);
        due("as it was", tree.count(0) + tree.count(40) + tree.plantIs(0, 1) * 10, 50);
        due("X as it was", tree.count(6), 1);
        tree.days(1);
        due("CUPS in them only", tree.tried(1, 20), 0);
        tree = landing("e0(1=1)", "g5(1=1)", 8, 1);
        tree.plant(3, 4, 4, 1);
        due("over", tree.tried(1, 1), 3 + 5);
        due("PLANTS dead then", tree.tried(1, 2), 2);
        tree.days(1);
        due("PLANTS dead now too", tree.tried(1, 2), 2);
        due("of dead ones nothing", tree.tried(60, 3), 0);
        due("WET of a dead one", tree.tried(60, 13), 4);
    }

    private static void plantIs() {
        LandingTree tree = landing("e4(1=1)", "g0(1=1)", 7, 2);
        due("no PLANT", tree.plantIs(-1, 0), -1);
        due("no PLANT", tree.plantIs(4, 0), -1);
        due("not told", tree.plantIs(1, 0), -1);
        int[] none = {-1, 7, 8, 9, 17, Integer.MAX_VALUE, Integer.MIN_VALUE};
        for (int what : none) {
            due("no such", tree.plantIs(0, what), -1);
        }
        tree.days(3);
        int[] due = {10, 0, 2, 2, 0, 1, -2};
        for (int what = 0; what < 7; what++) {
            due("what " + what, tree.plantIs(0, what), due[what]);
        }
        int[] looks = {0, 0, 3, 7, 7, 7, 7};
        for (int k = 0; k < 7; k++) {
            due("LOOKS " + k, tree.plantIs(0, 10 + k), looks[k]);
        }
    }

    private static void gives() {
        LandingTree tree = landing("e5(1=1)", "gf-1(1=1)", 5, 1);
        tree.person(2, 0, 2);
        due("CUPS", tree.gives(0, 0), 4);
        due("no RULE", tree.gives(2, 0), 0);
        due("no PERSON", tree.gives(1, 0), -1);
        due("no PERSON", tree.gives(8, 0), -1);
        due("no PERSON", tree.gives(-1, 0), -1);
        due("no PLANT", tree.gives(0, 1), -1);
        due("no PLANT", tree.gives(0, 4), -1);
        due("nothing happens", tree.plantIs(0, 1) + tree.count(40), 5);
        tree.person(0, 0, 0);
        due("whatever its tenths", tree.gives(0, 0), 4);
        tree.days(1);
        due("dead", tree.gives(0, 0), 0);
    }

    private static void exactly() {
        LandingTree tree = landing("e2(1=1);h1(1=1)", "g3(f<6)", 5, 2);
        tree.person(0, 4, 0);
        int[][] none = {{1, 1, 1, 0}, {-1, 1, 1, 0}, {0, 0, 1, 0}, {0, 10, 1, 0}, {0, 1, 0, 0}, {0, 1, 2, 0}, {0, 1, 4, 0},
            {0, 1, 1, -2}, {0, 1, 1, 25}};
        for (int[] x : none) {
            due("none such", tree.exactly(x[0], x[1], x[2], x[3]), -1);
        }
        due("comes, no sun", tree.exactly(0, 1, 1, 6), 20);
        due("comes, sun", tree.exactly(0, 1, 1, 5), 20);
        due("nobody, no sun", tree.exactly(0, 1, 1, 3), 30);
        due("nobody, sun", tree.exactly(0, 1, 1, 2), 30);
        due("never", tree.exactly(0, 1, 1, 24), 0);
        due("dead", tree.exactly(0, 1, 1, -1), 0);
        // Behind two DAYS 0 WET: from 3 or 2 if nobody comes, but for 3 without sun
        due("two DAYS", tree.exactly(0, 2, 1, 0), 30 * 30 + 30 * 60);
        due("DRY for one DAY only", tree.exactly(0, 2, 1, -1), 0);
        due("all of nine", tree.exactly(0, 9, 1, -1) <= 1000000000000000000L, true);
        long all = 0;
        for (int cups = 0; cups <= 24; cups++) {
            all += tree.exactly(0, 9, 1, cups);
        }
        due("all in all, the dead ones too", all, 1000000000000000000L);
        tree.person(4, 10, 1);
        tree.person(6, 10, 1);
        due("6 times 3 is 18", tree.exactly(0, 6, 2, 24), 0);
        due("7 times 3 is above 18", tree.exactly(0, 7, 2, 24), -1);
        due("4 times 4", tree.exactly(0, 4, 3, 24), 0);
        due("5 times 4", tree.exactly(0, 5, 3, 24), -1);

        // The lowest told ones, one behind the other; p, t, n, l, o are theirs, a is 99 and q 0
        tree = new LandingTree();
        law(tree, "e1(1=1)");
        rule(tree, 0, "g2(p=2&t=10&n=3&l=1&o=10&a=99&q=0)");
        rule(tree, 1, "g3(f=7&p=5);g9(1=1)");
        tree.plant(1, 10, 5, 9);
        tree.card(1, true);
        tree.person(2, 10, 0);
        tree.person(5, 10, 1);
        tree.person(7, 10, 2);
        due("one", tree.exactly(1, 1, 1, 6), 100);
        due("two", tree.exactly(1, 1, 2, 9), 1000);
        tree.days(1);
        due("a 99, q 0 all the same", tree.plant(1, 10, 5, 9) ? tree.exactly(1, 1, 1, 6) : 0, 100);
        // s is as WET as it is ahead of it, d goes on
        law(tree, "es(d=2)");
        rule(tree, 0, "g4(s=3&d<3)");
        tree.plant(1, 10, 3, 9);
        due("s, d", tree.exactly(1, 2, 1, 7), 10000);
        // DRY and DROWNED go on from where they are
        tree = landing("e0(1=1)", "g0(1=1)", 10, 3);
        tree.days(2);
        due("DROWNED twice already", tree.exactly(0, 1, 1, -1), 100);
        due("as WET as it was then", tree.exactly(0, 1, 1, 10), 100);
        rule(tree, 0, "g3(1=1);");
        law(tree, "e1(z=2)");
        due("z", tree.exactly(0, 2, 1, -1), 0);
        tree = landing("e9(1=1)", "g0(1=1)", 0, 2);
        tree.days(1);
        tree.pour(0, 9);
        due("DRY till a DAY ends", tree.exactly(0, 1, 1, -1), 100);
        law(tree, "e8(y=1)");
        due("y", tree.exactly(0, 1, 1, 1), 100);
        tree.days(1);
        law(tree, "e9(1=1)");
        tree.plant(1, 10, 0, 9);
        due("nine DRY DAYS", tree.exactly(1, 9, 1, -1), 1000000000000000000L);
        due("eight are not enough", tree.exactly(1, 8, 1, -1), 0);
        law(tree, "e0(1=1)");
        tree.plant(1, 10, 10, 9);
        due("nine DROWNED ones", tree.exactly(1, 9, 1, -1), 1000000000000000000L);
        due("eight are not enough", tree.exactly(1, 8, 1, -1), 0);
        law(tree, "e9(1=1)");
        tree.days(2);
        due("of a dead one", tree.exactly(0, 1, 1, -1), -1);
    }

    private static void chance() {
        LandingTree tree = landing("e2(1=1)", "g2(1=1)", 2, 1);
        tree.person(0, 3, 0);
        due("what", tree.chance(0, 1, 1, 2), -1);
        due("what", tree.chance(0, 1, 1, -1), -1);
        due("PLANT", tree.chance(1, 1, 1, 0), -1);
        due("n", tree.chance(0, 10, 1, 0), -1);
        due("m", tree.chance(0, 1, 2, 0), -1);
        due("the more the better", tree.chance(0, 1, 1, 0), 10);
        due("how likely", tree.chance(0, 1, 1, 1), 100);
        rule(tree, 0, "g2(t<7)");
        due("t, too", tree.chance(0, 1, 1, 0), 6);
        due("how likely", tree.chance(0, 1, 1, 1), 60);
        tree.plant(0, 10, 8, 1);
        due("the fewest of like ones", tree.chance(0, 1, 1, 0), 0);
        due("certain", tree.chance(0, 1, 1, 1), 100);
        // Two that each give one of two that are due, a POT of 4 that must not be full: just one must come
        law(tree, "e0(1=1)");
        rule(tree, 0, "g1(1=1)");
        tree.plant(0, 4, 2, 1);
        tree.person(1, 10, 0);
        due("all stay away", tree.chance(0, 1, 2, 0), 0);
        law(tree, "e1(1=1)");
        tree.plant(0, 4, 1, 1);
        due("all the same", tree.chance(0, 1, 2, 0), 10);
        law(tree, "e4(f=4);e2(f=2)");
        tree.plant(0, 4, 2, 1);
        due("just one of two", tree.chance(0, 1, 2, 0), 5);
        due("half of all", tree.chance(0, 1, 2, 1), 500);
    }

    private static void toAsk() {
        LandingTree tree = landing("e2(1=1)", "g2(1=1)", 2, 1);
        due("what", tree.toAsk(0, 1, 1, 2), -1);
        due("PLANT", tree.toAsk(4, 1, 1, 0), -1);
        tree.person(0, 3, 0);
        tree.person(1, 5, 0);
        due("the lowest of like ones", tree.toAsk(0, 1, 2, 0), 0);
        due("certain", tree.toAsk(0, 1, 2, 1), 1000);
        tree.person(0, 3, 1);
        due("the one who gives", tree.toAsk(0, 1, 2, 0), 1);
        due("certain", tree.toAsk(0, 1, 2, 1), 1000);
        tree.person(1, 10, 0);
        due("nobody", tree.toAsk(0, 1, 2, 0), -2);
        due("as it is", tree.toAsk(0, 1, 2, 1), 1000);
        // PERSON 0 gives one, the others one: two of three are due, two tenths less of 1 are none
        rule(tree, 0, "g1(1=1)");
        tree.person(0, 4, 0);
        tree.person(1, 1, 0);
        tree.person(5, 9, 0);
        due("the others come less", tree.toAsk(0, 1, 3, 0), 0);
        due("how likely", tree.toAsk(0, 1, 3, 1), 10000);
        law(tree, "e3(1=1)");
        due("two must come", tree.toAsk(0, 1, 3, 0), 1);
        due("2 or 7 tenths", tree.toAsk(0, 1, 3, 1), 10000 - 10000 * 8 * 3 / 100);
    }

    private static void few() {
        LandingTree tree = landing("e2(1=1)", "g2(1=1)", 2, 1);
        due("tenths", tree.few(0, 1, 1, -1), -1);
        due("tenths", tree.few(0, 1, 1, 11), -1);
        due("PLANT", tree.few(1, 1, 1, 0), -1);
        due("m", tree.few(0, 1, 2, 0), -1);
        tree.person(0, 10, 1);
        tree.person(1, 5, 0);
        tree.person(2, 2, 0);
        due("none", tree.few(0, 1, 3, 0), 0);
        due("two", tree.few(0, 1, 3, 5), 2);
        due("three of them: 60", tree.few(0, 1, 3, 6), 3);
        due("not by three", tree.few(0, 1, 3, 7), -2);
        due("not by two", tree.few(0, 1, 2, 6), -2);
        due("not by one", tree.few(0, 1, 1, 1), -2);
        tree.plant(0, 10, 9, 1);
        due("all tenths by nobody", tree.few(0, 3, 3, 10), 0);
        due("nine DAYS", tree.few(0, 9, 1, 10), -2);
    }

    private static void pot() {
        LandingTree tree = landing("e0(1=1)", "g2(1=1)", 8, 1);
        tree.person(0, 5, 0);
        int[][] none = {{0, 1, 1, 3}, {0, 1, 1, 25}, {1, 1, 1, 5}, {0, 10, 1, 5}, {0, 1, 2, 5}};
        for (int[] x : none) {
            due("none such", tree.pot(x[0], x[1], x[2], x[3]), NO_POT);
        }
        due("as it is", tree.pot(0, 1, 1, 10), 0);
        due("bigger", tree.pot(0, 1, 1, 11), 50);
        due("smaller", tree.pot(0, 1, 1, 8), -50);
        due("that POT at most", tree.pot(0, 1, 1, 4), -50);
        rule(tree, 0, "go-8(1=1)");
        due("o is the new POT: 9 CUPS fill it", tree.pot(0, 1, 1, 17), 0);
        due("9 CUPS do not", tree.pot(0, 1, 1, 18), 50);
        law(tree, "e1(1=1)");
        rule(tree, 0, "g2(1=1)");
        due("it lives either way", tree.pot(0, 1, 1, 24), 0);
        law(tree, "e0(1=1)");
        tree.plant(0, 4, 4, 1);
        tree.days(1);
        due("dead", tree.pot(0, 1, 1, 5), NO_POT);
    }

    private static void ruleFor() {
        LandingTree tree = landing("e2(1=1)", "g9(1=1)", 2, 1);
        tree.person(0, 5, 0);
        int[][] none = {{1, 1, 1, 1, 0}, {0, 0, 1, 1, 0}, {0, 1, 2, 1, 0}, {0, 1, 1, 0, 0}, {0, 1, 1, 10, 0},
            {0, 1, 1, 1, -1}, {0, 1, 1, 1, 2}};
        for (int[] x : none) {
            due("none such", tree.ruleFor(x[0], x[1], x[2], x[3], x[4]), -1);
        }
        due("less WET than 3", tree.ruleFor(0, 1, 1, 1, 0), 3);
        due("how likely", tree.ruleFor(0, 1, 1, 1, 1), 50);
        tree.plant(0, 10, 5, 1);
        due("no need", tree.ruleFor(0, 1, 1, 1, 0), 0);
        due("certain", tree.ruleFor(0, 1, 1, 1, 1), 100);
        // 5 3 1 0: by 2 CUPS for one that is less WET than 2 it lives on the third DAY
        tree.person(0, 10, 3);
        due("three DAYS", tree.ruleFor(0, 3, 1, 2, 0), 2);
        // By one CUP a DAY only who never lets it fall below 23 keeps it
        law(tree, "e1(f=24);e9(1=1)");
        tree.plant(0, 24, 23, 1);
        due("24", tree.ruleFor(0, 3, 1, 1, 0), 24);
        law(tree, "e2(1=1)");
        // Too much drowns: two give 4 each, of 8 in all only 4 do not reach the POT of 7
        law(tree, "e0(1=1)");
        tree.plant(0, 7, 1, 1);
        tree.person(1, 10, 3);
        due("none of them", tree.ruleFor(0, 1, 2, 4, 0), 0);
        law(tree, "e2(f<6);e1(1=1)");
        due("only the first", tree.ruleFor(0, 1, 2, 4, 0), 2);
    }

    private static void lasts() {
        LandingTree tree = landing("e2(1=1);h9(1=1)", "g9(1=1)", 5, 2);
        due("PLANT", tree.lasts(1, 0), -1);
        due("cups", tree.lasts(0, -1), -1);
        due("cups", tree.lasts(0, 25), -1);
        due("as it is", tree.lasts(0, 0), 3);
        due("with 2", tree.lasts(0, 2), 4);
        due("10 at most", tree.lasts(0, 24), 5);
        law(tree, "e0(1=1)");
        due("60 at most", tree.lasts(0, 0), 60);
        due("drowns", tree.lasts(0, 5), 1);
        // s of the week ago: 5 for seven DAYS, then what it was
        law(tree, "e1(s<4);e1(d=0);e1(d=1)");
        due("s as it is then", tree.lasts(0, 0), 11);
        tree.card(0, true);
        law(tree, "e1(a=99);e9(1=1)");
        due("a: nothing on it", tree.lasts(0, 0), 5);
        rule(tree, 0, "g1(1=1)");
        law(tree, "e1(1=1)");
        tree.days(1);
        law(tree, "ea(1=1)");
        due("a goes on: 1 2 3", tree.lasts(0, 0), 3);
        due("nothing happens", tree.count(0) + tree.plantIs(0, 1), 6);
        tree.plant(0, 4, 0, 1);
        tree.days(1);
        due("nothing is left of it", tree.plantIs(0, 5) == 1 ? tree.lasts(0, 1) : -1, -1);
    }

    private static void needs() {
        LandingTree tree = landing("e2(1=1)", "g9(1=1)", 2, 1);
        due("PLANT", tree.needs(1, 1), -1);
        due("DAYS", tree.needs(0, 0), -1);
        due("DAYS", tree.needs(0, 61), -1);
        due("one", tree.needs(0, 1), 1);
        due("three", tree.needs(0, 3), 5);
        due("four", tree.needs(0, 4), 7);
        due("five: not even a full POT", tree.needs(0, 5), -2);
        law(tree, "e0(1=1)");
        due("none", tree.needs(0, 60), 0);
        law(tree, "e1(f=10)");
        due("drowns never", tree.needs(0, 60), 0);
        due("nothing happens", tree.plantIs(0, 1), 2);
        law(tree, "e1(1=1)");
        tree.plant(0, 24, 0, 1);
        due("all 24", tree.needs(0, 23), 24);
        due("not by 24", tree.needs(0, 24), -2);
    }

    private static void week() {
        LandingTree tree = landing("e2(1=1);h9(1=1)", "g2(1=1)", 5, 2);
        int[][] none = {{1, 1, 0}, {0, 0, 0}, {0, 2, 0}, {0, 4, 0}, {0, 1, -1}, {0, 1, 7}, {0, 1, 9}, {0, 1, 12}};
        for (int[] x : none) {
            due("none such", tree.week(x[0], x[1], x[2]), -1);
        }
        due("comings", tree.week(0, 1, 10), 4);
        due("WET", tree.week(0, 1, 11), 0);
        int[] row = {0, 0, 0, 0, -3, -3, -3};
        for (int day = 0; day < 7; day++) {
            due("DAY " + day, tree.week(0, 1, day), row[day]);
        }
        tree.days(1);
        rule(tree, 0, "g2(q>1)");
        due("CUPS given before count in q", tree.week(0, 1, 10), 4);
        rule(tree, 0, "g2(1=1)");
        tree.plant(0, 10, 1, 1);
        due("each DAY", tree.week(0, 1, 10), 7);
        due("WET", tree.week(0, 1, 11), 1);
        // The lowest two are 3 and 6: 6 gives 5 once it is 3 WET or less, 3 gives nothing
        tree = new LandingTree();
        law(tree, "e2(1=1)");
        rule(tree, 1, "g5(f<4)");
        tree.plant(2, 10, 5, 1);
        tree.person(3, 10, 0);
        tree.person(6, 0, 1);
        tree.person(7, 10, 1);
        due("two comings", tree.week(2, 2, 10), 2);
        int[] comers = {-3, 6, -3, -3, 6, -3, -3};
        for (int day = 0; day < 7; day++) {
            due("DAY " + day, tree.week(2, 2, day), comers[day]);
        }
        due("WET", tree.week(2, 2, 11), 1);
        due("by no row", tree.week(2, 1, 10), -2);
        due("by no row", tree.week(2, 1, 0), -2);
        tree.person(3, 0, 2);
        rule(tree, 2, "g9(q=0)");
        due("q goes on", tree.week(2, 2, 0), 3);
        due("one coming", tree.week(2, 2, 10), 2);
        tree.card(2, true);
        law(tree, "e2(a=99);e0(1=1)");
        due("a goes on", tree.week(2, 2, 10), 1);
        due("the DAY of it", tree.week(2, 2, 1), 6);
        due("nobody ahead of it", tree.week(2, 2, 0), -3);
        due("WET then", tree.week(2, 2, 11), 8);
        due("nothing happens", tree.count(43) + tree.plantIs(2, 1) + tree.plantIs(2, 6), 2);
    }

    private static void movesOut() {
        LandingTree tree = landing("e2(1=1)", "g2(1=1)", 2, 1);
        due("what", tree.movesOut(0, 1, 1, 2), -1);
        due("what", tree.movesOut(0, 1, 1, -1), -1);
        due("PLANT", tree.movesOut(1, 1, 1, 0), -1);
        due("m", tree.movesOut(0, 1, 2, 0), -1);
        tree.person(0, 3, 0);
        tree.person(1, 6, 0);
        tree.person(2, 6, 0);
        due("the lowest of like ones", tree.movesOut(0, 1, 3, 0), 1);
        due("how likely", tree.movesOut(0, 1, 3, 1), 10000 - 10000 * 7 * 4 / 100);
        due("of two", tree.movesOut(0, 1, 2, 0), 1);
        due("how likely", tree.movesOut(0, 1, 2, 1), 300);
        tree.plant(0, 10, 9, 1);
        due("it lives without", tree.movesOut(0, 1, 3, 0), 0);
        due("how likely", tree.movesOut(0, 1, 3, 1), 10000);
    }

    private static void spread() {
        LandingTree tree = new LandingTree();
        due("none told", tree.spread(5, 10), -2);
        due("none told", tree.spread(5, 0), -2);
        due("cups ahead of it", tree.spread(25, 0), -1);
        law(tree, "e2(1=1)");
        tree.plant(0, 10, 5, 2);
        tree.plant(2, 8, 2, 1);
        int[] none = {-1, 4, 9, 11};
        for (int what : none) {
            due("what", tree.spread(5, what), -1);
        }
        due("cups", tree.spread(-1, 0), -1);
        due("cups", tree.spread(25, 0), -1);
        int[] row = {0, 0, 5, 0};
        for (int l = 0; l < 4; l++) {
            due("PLANT " + l, tree.spread(5, l), row[l]);
        }
        due("how long", tree.spread(5, 10), 3);
        due("nothing to spread", tree.spread(0, 10), 0);
        due("all of it is poured", tree.spread(24, 2), 24);
        law(tree, "e2(l=0);e1(1=1)");
        due("PLANT 2 by one a DAY", tree.spread(4, 10), 3);
        due("the least row", tree.spread(4, 0), 0);
        due("5, and 6 in its POT", tree.spread(6, 10), 4);
        due("two for PLANT 0", tree.spread(6, 0), 2);
        tree.plant(3, 4, 0, 1);
        tree.plant(1, 4, 0, 1);
        tree.days(1);
        due("dead ones get nothing", tree.spread(24, 1) + tree.spread(24, 3), 0);
        tree.days(60);
        due("all are dead", tree.spread(5, 10), -2);
        due("all are dead", tree.spread(5, 1), -2);
        law(tree, "e1(1=1)");
        tree.plant(1, 10, 3, 1);
        tree.plant(3, 10, 1, 1);
        int[] both = {0, 2, 0, 4};
        for (int l = 0; l < 4; l++) {
            due("PLANT " + l + " of 1 and 3", tree.spread(6, l), both[l]);
        }
        due("both as long", tree.spread(6, 10), 4);
        tree.days(60);
        law(tree, "e0(1=1)");
        tree.plant(0, 4, 2, 1);
        due("drowns by it", tree.spread(2, 10), 0);
        due("all for the one", tree.spread(2, 0), 2);
        due("60 at most", tree.spread(1, 10), 60);
    }

    private static void comes() {
        LandingTree tree = new LandingTree();
        feed(tree, 5, 5);
        int[][] none = {{0, 0, 0}, {13, 0, 0}, {2, -1, 0}, {2, 13, 0}, {2, 0, -1}, {2, 0, 2}};
        for (int[] x : none) {
            due("none such", tree.comes(x[0], x[1], x[2]), -1);
        }
        due("the tape stays", tree.count(5), 20);
        due("one of two", tree.comes(2, 1, 0), 1);
        due("empty then", tree.count(5), 0);
        due("not so many", tree.comes(1, 1, 0), -1);
        feed(tree, 5, 5);
        due("below", tree.comes(2, 1, 1), 2);
        feed(tree, 3, 4, 10);
        due("3 4 10: two", tree.comes(3, 2, 0), 3 * 6 + 7 * 4 - 23);
        feed(tree, 3, 4, 10);
        due("3 4 10: two", tree.comes(3, 2, 1), 50);
        feed(tree, 3, 4, 10);
        due("none of three", tree.comes(3, 0, 0), 0);
        feed(tree, 3, 4, 10);
        due("without a common divisor", tree.comes(3, 0, 1), 1);
        feed(tree, 3, 4, 10);
        due("more than there are", tree.comes(3, 12, 1), 1);
        feed(tree, 3, 3, 3, 3, 3, 3, 3, 3, 3, 3, 3, 3);
        due("all of twelve", tree.comes(12, 12, 0), 531441);
        feed(tree, 3, 3, 3, 3, 3, 3, 3, 3, 3, 3, 3, 3);
        due("all of twelve", tree.comes(12, 12, 1), 1000000000000L);
        feed(tree, 3, 11, 3);
        due("above 10", tree.comes(2, 0, 0), -2);
        due("empty then", tree.count(5), 0);
        feed(tree, 3, 11, 3);
        due("not among them", tree.comes(1, 1, 0), 3);
    }

    private static void share() {
        LandingTree tree = landing("e1(1=1)", "g1(1=1)", 5, 9);
        tree.person(1, 10, 1);
        tree.person(4, 10, 2);
        rule(tree, 1, "g2(1=1)");
        due("nobody", tree.share(-1, 0), -2);
        due("what", tree.share(-1, 1), -1);
        due("no PERSON", tree.share(2, 0), -1);
        due("no PERSON", tree.share(8, 0), -1);
        due("no PERSON", tree.share(-2, 0), -1);
        due("what", tree.share(0, 2), -1);
        due("what", tree.share(0, -1), -1);
        due("nothing", tree.share(0, 0), 0);
        due("of nothing", tree.share(0, 1), 1);
        tree.days(2);
        due("THE ONE", tree.share(-1, 0), 1);
        due("part", tree.share(1, 0), 2);
        due("of", tree.share(1, 1), 3);
        due("part", tree.share(0, 0), 1);
        due("nothing", tree.share(4, 0), 0);
        due("of", tree.share(4, 1), 1);
        rule(tree, 0, "g4(1=1)");
        tree.days(1);
        due("the lowest of like ones", tree.share(-1, 0), 0);
        tree.person(0, 10, 0);
        due("a new one has given none", tree.share(1, 1), 1);
    }

    private static void rota() {
        LandingTree tree = landing("e2(1=1)", "g2(1=1)", 5, 2);
        tree.person(3, 0, 1);
        Object[][] texts = {
            {"7.", 7}, {"7a/7a", 14}, {"aaaaaaa", 7}, {"2a3d2.", 7}, {times(12, "7a", "/"), 84},
            {"x", -1000}, {"8.", -1000}, {"1a", -1000}, {"9a", -1000}, {"/7a", -1000}, {"i", -1000}, {"22a", -1001},
            {"7", -1001}, {"7/", -1001}, {"3.", -1002}, {"3./", -1002}, {"7./", -1003}, {"7a/x", -1003}, {"7.x", -1002},
            {"7.1", -1002}, {"7.8", -1002}, {"7.a", -6002}, {"7..", -6002}, {"7.2", -6002}, {"6.2", -6002}, {"6.2b", -6002},
            {"5.3x", -6002}, {"7.b", -6002}, {"5.2.a", -6004}, {"b", -7000}, {"2b", -7001}, {"7a/2a3h2.", -7006},
            {times(12, "7a", "/") + "/7a", -4036}, {times(12, "7a", "/") + "/.", -4036}, {times(12, "7a", "/") + "/b", -4036},
            {times(12, "7a", "/") + "/1", -1036}, {times(12, "7a", "/") + "/", -1036}
        };
        for (Object[] text : texts) {
            due((String) text[0], rota(tree, 0, (String) text[0], 0), (Integer) text[1]);
            due("empty then", tree.count(5), 0);
        }
        due("a FAULT for all that is asked", rota(tree, 0, "x", 2), -1000);
        feed(tree, "7a");
        int[][] none = {{1, 2, 0}, {-1, 2, 0}, {0, 0, 0}, {0, 91, 0}, {0, 21, 0}, {0, 2, -1}, {0, 2, 3}, {0, 2, 9}, {0, 2, 18}};
        for (int[] x : none) {
            due("none such", tree.rota(x[0], x[1], x[2]), -1);
        }
        due("the tape stays", tree.count(5), 20);
        due("DAYS of PERSON 0", tree.rota(0, 2, 10), 7);
        due("DAYS of PERSON 3", rota(tree, 0, "2a3d2./5d2.", 13), 8);
        due("of one not told", rota(tree, 0, "7a", 17), 0);
        due("lives", rota(tree, 0, "7a", 1), -2);
        due("WET", rota(tree, 0, "7a", 2), 5);
        due("dies", rota(tree, 0, "7.", 1), 3);
        due("WET of a dead one", rota(tree, 0, "7.", 2), 0);
        // The DRAWS are for the sun alone: 2 7 6 5 2 9 6
        law(tree, "e1(1=1);h1(1=1)");
        rule(tree, 0, "g1(f<4)");
        due("sunny twice", rota(tree, 0, "2.5a", 2), 5 - 2 - 1 + 1 - 1 + 1 - 1 + 1 - 2 + 1 - 1 + 1 - 1);
        // Only the PLANT that is told is given to: q goes on from it alone
        tree.plant(1, 10, 5, 9);
        rule(tree, 0, "g3(q<6&w=d%7)");
        law(tree, "e1(1=1)");
        due("q", rota(tree, 0, "7a", 2), 5 + 6 - 7);
        tree.card(0, true);
        rule(tree, 0, "g3(a=99|a=3)");
        due("CARD", rota(tree, 0, "7a", 2), 5 + 9 - 7);
        due("nothing happens", tree.plantIs(0, 6) + tree.count(0) + tree.count(40) + tree.count(6), -2);
        tree.plant(2, 10, 10, 1);
        law(tree, "e0(1=1)");
        due("dead behind the first", rota(tree, 2, "7.", 1), 0);
        due("WET as it was then", rota(tree, 2, "7.", 2), 10);
        tree.days(1);
        feed(tree, "7.");
        due("dead", tree.rota(2, 2, 0), -1);
        lateRota();
    }

    private static void lateRota() {
        LandingTree tree = landing("e0(1=1)", "g0(1=1)", 5, 9);
        for (int i = 0; i < 165; i++) {
            tree.days(60);
        }
        tree.days(15);
        due("9915", rota(tree, 0, "7.", 0), 7);
        tree.days(1);
        due("above 9915", rota(tree, 0, "7.", 0), -1);
    }

    private static void alone() {
        LandingTree tree = new LandingTree();
        due("n", tree.alone(1, 0), -1);
        due("n", tree.alone(7, 0), -1);
        due("what", tree.alone(2, -1), -1);
        due("what", tree.alone(2, 3), -1);
        due("no LAW: all rows", tree.alone(6, 0), 64);
        due("the lowest", tree.alone(6, 1), 0);
        due("all tenths", tree.alone(6, 2), 10);
        law(tree, "c5(1=1);b20(1=1)");
        due("just one", tree.alone(3, 0), 3);
        due("the lowest", tree.alone(3, 1), 1);
        due("tenths of two", tree.alone(2, 2), 7);
        due("tenths of three", tree.alone(3, 2), 5);
        due("tenths of six", tree.alone(6, 2), 2);
        law(tree, "c5(1=1);b4(1=1)");
        due("nobody", tree.alone(4, 0), 1);
        due("row 0", tree.alone(4, 1), 0);
        due("by none", tree.alone(4, 2), -2);
        law(tree, "c5(1=1);b5(1=1)");
        due("it is all one", tree.alone(2, 0), 3);
        due("row 0", tree.alone(2, 1), 0);
        due("only by 0", tree.alone(2, 2), 0);
        law(tree, "cp(1=1);b1(1=1)");
        due("each by its own", tree.alone(2, 0), 2);
        due("row 1", tree.alone(2, 1), 1);
        law(tree, "c500(p=0);c0-3(1=1);b5000(p=0);b99(1=1)");
        due("99 and 999 at most: 99 of 999, 0 of 99", tree.alone(2, 2), 9);
        law(tree, "c10(1=1);b5000(1=1)");
        due("999: 2 of 10 twice is enough", tree.alone(3, 2), 8);
        law(tree, "c500(p=0);c0-3(1=1);b5000(p=0);b99(1=1)");
        due("0 waters nothing: PERSON 1 alone, or 0 alone", tree.alone(2, 0), 2);
        law(tree, "c5(d=1);b20(d=1)");
        due("on another DAY", tree.alone(2, 0), 4);
        tree.days(1);
        due("on THE DAY", tree.alone(2, 0), 2);
    }

    private static void whoDid() {
        LandingTree tree = new LandingTree();
        feed(tree, 3, 4, 3);
        int[][] none = {{0, 3, 2, 1, 0}, {7, 3, 2, 1, 0}, {2, 0, 2, 1, 0}, {2, 256, 2, 1, 0}, {2, 63, 2, 1, 0}, {2, 3, 0, 1, 0},
            {2, 3, 10, 1, 0}, {2, 3, 2, -1, 0}, {2, 3, 2, 10, 0}, {2, 3, 2, 1, -1}, {2, 3, 2, 1, 3}, {2, -1, 2, 1, 0}};
        for (int[] x : none) {
            due("none such", tree.whoDid(x[0], x[1], x[2], x[3], x[4]), -1);
        }
        due("the tape stays", tree.count(5), 20);
        due("one of two, then nobody", tree.whoDid(2, 3, 2, 1, 0), 2);
        due("empty then", tree.count(5), 0);
        due("not so many", tree.whoDid(1, 3, 2, 1, 0), -1);
        feed(tree, 3, 4, 3);
        due("none must", tree.whoDid(2, 3, 2, 1, 2), 0);
        feed(tree, 3, 4, 3);
        due("each DAY fits", tree.whoDid(2, 3, 2, 1, 1), -2);
        feed(tree, 3, 6, 5);
        due("both, then nobody", tree.whoDid(2, 3, 2, 1, 0), 1);
        feed(tree, 3, 6, 5);
        due("both must", tree.whoDid(2, 3, 2, 1, 2), 3);
        feed(tree, 3, 2, 4, 3);
        due("none fits", tree.whoDid(3, 3, 2, 1, 0), 0);
        feed(tree, 3, 2, 4, 3);
        due("on DAY 1", tree.whoDid(3, 3, 2, 1, 1), 1);
        feed(tree, 3, 6, 6);
        due("without rows", tree.whoDid(2, 3, 2, 1, 2), 0);
        feed(tree, 0, 0);
        due("0 at least", tree.whoDid(1, 3, 2, 5, 0), 4);
        feed(tree, 250, 255);
        due("255", tree.whoDid(1, 128, 9, 4, 2), 128);
        feed(tree, 0, 0, 0, 0, 0, 0, 0);
        due("all of all", tree.whoDid(6, 31, 1, 9, 0), 1L << 30);
        feed(tree, 0, 0, 0, 0, 0, 0, 0);
        due("PEOPLE apart", tree.whoDid(6, 0xaa, 2, 2, 0), 5 * 5 * 5 * 5 * 5 * 5);
    }

    private static void can() {
        LandingTree tree = new LandingTree();
        feed(tree, 5, 5);
        int[][] none = {{0, 3, 2, 0}, {7, 3, 2, 0}, {2, 0, 2, 0}, {2, 10, 2, 0}, {2, 3, -1, 0}, {2, 3, 61, 0}, {2, 3, 2, -1},
            {2, 3, 2, 2}};
        for (int[] x : none) {
            due("none such", tree.can(x[0], x[1], x[2], x[3]), -1);
        }
        due("the tape stays", tree.count(5), 20);
        due("3 of 4", tree.can(2, 3, 2, 0), 3);
        due("empty then", tree.count(5), 0);
        due("not so many", tree.can(1, 3, 2, 0), -1);
        feed(tree, 5, 5);
        due("3 of 4", tree.can(2, 3, 2, 1), 4);
        feed(tree, 10, 10, 10);
        due("all come", tree.can(3, 3, 4, 0), 5);
        feed(tree, 10, 10, 10);
        due("all come", tree.can(3, 3, 2, 0), 7 - 1);
        feed(tree, 10, 10, 10);
        due("never so much", tree.can(3, 9, 27, 0), 0);
        feed(tree, 10, 10, 10);
        due("of one", tree.can(3, 9, 60, 1), 1);
        feed(tree, 1, 0, 0, 0, 0, 0);
        due("never two", tree.can(6, 9, 0, 0), 0);
        feed(tree, 11);
        due("above 10", tree.can(1, 9, 0, 0), -2);
        due("empty then", tree.count(5), 0);
    }

    private static void seed() {
        LandingTree tree = landing("e1(1=1)", "g0(1=1)", 5, 9);
        due("no such", tree.seed(-1), false);
        due("no such", tree.seed(65536), false);
        due("as it was", tree.count(6), 1);
        due("the last", tree.seed(65535), true);
        due("X", tree.count(6), 65535);
        due("0", tree.seed(0), true);
        tree.person(0, 0, 0);
        tree.days(1);
        due("two DRAWS: 13849, then", tree.count(6), (25173 * 13849 + 13849) % 65536);
    }

    private static void keep() {
        LandingTree tree = new LandingTree();
        due("none", tree.keep(), 0);
        law(tree, "e1(1=1)");
        tree.plant(0, 10, 5, 3);
        tree.plant(3, 4, 4, 1);
        tree.plant(2, 4, 0, 1);
        due("all", tree.keep(), 9);
        tree.days(1);
        due("dead ones too", tree.keep(), 7 + tree.plantIs(2, 1));
    }

    private static void undo() {
        LandingTree tree = landing("e1(1=1)", "g2(1=1)", 5, 9);
        due("none", tree.undo(), false);
        tree.card(0, true);
        tree.keep();
        tree.days(3);
        tree.plant(1, 10, 5, 9);
        tree.person(0, 5, 2);
        tree.person(6, 5, 2);
        rule(tree, 2, "g1(1=1)");
        feed(tree, "some");
        due("UNDONE", tree.undo(), true);
        int[] due = {0, 1, 0, 1, 1, 20, 1};
        for (int what = 0; what < 7; what++) {
            due("count " + what, tree.count(what), due[what]);
        }
        tree.check(0, 0);
        due("RULES stay", tree.count(12), 1);
        due("tenths", tree.count(20), 10);
        due("CUPS", tree.count(40), 0);
        due("WET", tree.plantIs(0, 1), 5);
        due("LOOKS", tree.plantIs(0, 10), 5);
        due("CARD", tree.plantIs(0, 6), -3);
        tree.days(1);
        due("once more", tree.undo(), true);
        due("THE DAY", tree.count(0), 0);
        tree.days(1);
        tree.keep();
        tree.days(1);
        tree.undo();
        due("KEPT last", tree.count(0), 1);
        due("CUPS", tree.count(40), 2);
        due("CARD", tree.plantIs(0, 6), 0);
        rule(tree, 1, "g7(n=1)");
        tree.person(0, 1, 1);
        due("n is as KEPT", tree.gives(0, 0), 7);
    }

    private static void check() {
        LandingTree tree = landing("e1(1=1)", "g0(1=1)", 9, 9);
        tree.days(3);
        int[] right = {0, 0, 0, 9, 0, 0, 0, 9, 0, 0, 0, 9, 0, 0, 0, 9, 0, 0, 0, 8, 0, 0, 0, 7, 0, 0, 0, 6};
        feed(tree, right);
        due("no PLANT", tree.check(1, 7), -2);
        due("no PLANT", tree.check(-1, 7), -2);
        due("n", tree.check(0, -1), -2);
        due("n", tree.check(0, 8), -2);
        due("the tape stays", tree.count(5), 40);
        due("right", tree.check(0, 7), -1);
        due("empty then", tree.count(5), 0);
        due("not so many", tree.check(0, 1), -2);
        due("nothing is right", tree.check(0, 0), -1);
        for (int i = 0; i < 7; i++) {
            int[] not = right.clone();
            not[4 * i + 3]++;
            feed(tree, not);
            due("number " + i, tree.check(0, 7), i);
            not = right.clone();
            not[4 * i] = 1;
            feed(tree, not);
            due("its highest byte " + i, tree.check(0, 7), i);
            feed(tree, right);
            due("the first ones", tree.check(0, i), -1);
        }
        feed(tree, 0, 0, 0, 9, 0, 0, 0, 9, 0, 0, 0, 9, 0, 0, 0, 9, 0, 0, 0, 9);
        due("six need 24 bytes", tree.check(0, 6), -2);
        due("five have 20", tree.check(0, 5), 4);
    }

    private static void count() {
        LandingTree tree = landing("e1(1=1);h9(1=1)", "g2(1=1);g3(1=1)", 5, 9);
        tree.plant(2, 4, 0, 1);
        tree.plant(3, 4, 0, 1);
        tree.person(7, 3, 1);
        tree.person(4, 0, 2);
        rule(tree, 0, "g0(l>1);g2(1=1);g3(1=1)");
        tree.days(1);
        feed(tree, "tape");
        int[] due = {1, 13, 12, 145, 2, 20};
        for (int what = 0; what < 6; what++) {
            due("count " + what, tree.count(what), due[what]);
        }
        int x = 1;
        for (int i = 0; i < 6; i++) {
            x = (25173 * x + 13849) % 65536;
        }
        due("X", tree.count(6), x);
        due("CLAUSES", tree.count(10), 3);
        due("none", tree.count(13), 0);
        due("tenths", tree.count(27), 3);
        due("RULE", tree.count(37), 1);
        due("RULE", tree.count(34), 2);
        due("CUPS", tree.count(40), 2);
        int[] none = {-1, 7, 9, 14, 19, 21, 28, 29, 31, 38, 39, 41, 48, 50, 57, 100, 127, Integer.MAX_VALUE, Integer.MIN_VALUE};
        for (int what : none) {
            due("none such " + what, tree.count(what), -1);
        }
    }
}

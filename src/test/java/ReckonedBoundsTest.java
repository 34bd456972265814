/** What is reckoned over all DRAWS, LASTS, NEEDS, THE WEEK, A SPREAD (Terms 2): each boundary that is named, by itself. */
public final class ReckonedBoundsTest extends Calls {
    private static final long MOST = 1000000000000000000L;

    public static void main(String[] args) {
        drawsAtMost();
        peopleTold();
        behindTheDays();
        aheadOfIt();
        deadByThen();
        cupsAsked();
        atWhatChance();
        whomToAsk();
        othersLess();
        howFew();
        aBiggerPot();
        aRuleForEach();
        whoMovesOut();
        lasts();
        lastsAsTheyAreThen();
        needs();
        theWeek();
        theLeastRow();
        asInADay();
        aSpread();
        theLeastSpread();
        late();
        end();
    }

    /** A PLANT of 24 CUPS, 12 WET, that bears one DAY, and so many PEOPLE who come by 5 tenths and give one. */
    private static LandingTree some(int people) {
        LandingTree tree = landing("e1(1=1)", "g1(1=1)", 5, 1);
        tree.plant(0, 24, 12, 1);
        for (int p = 0; p < people; p++) {
            tree.person(p, 5, 0);
        }
        return tree;
    }

    private static long[] all(LandingTree tree, int l, int n, int m) {
        return new long[] {tree.exactly(l, n, m, -1), tree.chance(l, n, m, 0), tree.toAsk(l, n, m, 1), tree.few(l, n, m, 0),
            tree.pot(l, n, m, 24), tree.ruleFor(l, n, m, 1, 0), tree.movesOut(l, n, m, 0)};
    }

    private static void areAll(String what, LandingTree tree, int l, int n, int m, boolean can) {
        long[] answers = all(tree, l, n, m);
        for (int i = 0; i < answers.length; i++) {
            due(what + ", " + i, answers[i] == (i == 4 ? NO_POT : -1), !can);
        }
    }

    private static void drawsAtMost() {
        sentence("n DAYS (1 to 9) of m told PEOPLE (the lowest told ones; 1 to 3), n times m + 1 being 18 at most");
        LandingTree tree = some(4);
        int[] most = {9, 6, 4};
        for (int m = 1; m <= 3; m++) {
            for (int n = -1; n <= 11; n++) {
                areAll(n + " DAYS of " + m, tree, 0, n, m, n >= 1 && n <= most[m - 1]);
            }
        }
        for (int m : new int[] {-1, 0, 4, 5, Integer.MAX_VALUE, Integer.MIN_VALUE}) {
            areAll("one DAY of " + m, tree, 0, 1, m, false);
        }
        areAll("many DAYS", tree, 0, Integer.MAX_VALUE, 1, false);
        areAll("many DAYS of many", tree, 0, 65536, 65535, false);
        areAll("few DAYS", tree, 0, Integer.MIN_VALUE, 1, false);
    }

    private static void peopleTold() {
        sentence("NONE: no such ones, so many PEOPLE are not told.");
        for (int told = 1; told <= 4; told++) {
            LandingTree tree = some(told);
            for (int m = 1; m <= 3; m++) {
                areAll(m + " of " + told, tree, 0, 1, m, m <= told);
            }
            for (int l : new int[] {-1, 1, 3, 4, Integer.MAX_VALUE}) {
                areAll("PLANT " + l, tree, l, 1, 1, false);
            }
        }
        LandingTree tree = new LandingTree();
        tree.plant(0, 4, 4, 1);
        areAll("nobody told", tree, 0, 1, 1, false);
        tree.person(7, 5, 0);
        areAll("the last one told", tree, 0, 1, 1, true);
        tree.days(1);
        areAll("a dead PLANT", tree, 0, 1, 1, false);
    }

    private static void behindTheDays() {
        sentence("how likely WET is so many cups behind them; it is dead by then: of tens for each DRAW");
        LandingTree tree = new LandingTree();
        law(tree, "e1(1=1);h1(1=1)");
        rule(tree, 2, "g1(1=1)");
        tree.plant(3, 24, 10, 1);
        tree.person(7, 10, 2);
        tree.person(2, 3, 2);
        tree.person(4, 5, 2);
        due("nobody, sun", tree.exactly(3, 1, 1, 8), 35);
        due("nobody, no sun; PERSON 2, sun", tree.exactly(3, 1, 1, 9), 35 + 15);
        due("PERSON 2, no sun", tree.exactly(3, 1, 1, 10), 15);
        long[] two = {0, 0, 0, 0, 0, 0, 0, 0, 175, 175 + 250, 250 + 75, 75};
        for (int cups = 0; cups < two.length; cups++) {
            due("by two, " + cups, tree.exactly(3, 1, 2, cups), two[cups]);
        }
        long[] three = {0, 0, 0, 0, 0, 0, 0, 0, 0, 1750, 1750 + 2500, 2500 + 750, 750, 0};
        for (int cups = 0; cups < three.length; cups++) {
            due("by three, " + cups, tree.exactly(3, 1, 3, cups), three[cups]);
        }
        for (int m = 1; m <= 3; m++) {
            long sum = 0;
            for (int cups = 0; cups <= 24; cups++) {
                sum += tree.exactly(3, m == 1 ? 9 : 18 / (m + 1), m, cups);
            }
            due("all in all by " + m, sum, m == 1 || m == 2 ? MOST : MOST / 100);
        }
    }

    private static void aheadOfIt() {
        sentence("(others aside; in all of it s is as WET as it is now, ahead of it, a 99, q 0)");
        LandingTree tree = landing("e1(1=1)", "g2(1=1)", 5, 9);
        tree.plant(1, 10, 5, 9);
        tree.card(0, true);
        tree.days(3);
        tree.pour(0, 1);
        due("WET now", tree.plantIs(0, 1), 9);
        due("s", rule(tree, 0, "g1(s=9)") * tree.exactly(0, 3, 1, 9), 1000000);
        due("a", rule(tree, 0, "g1(a=99)") * tree.exactly(0, 3, 1, 9), 1000000);
        due("q", rule(tree, 0, "g1(q=0)") * tree.exactly(0, 3, 1, 9), 1000000);
        due("d", rule(tree, 0, "g1(d<4)") * tree.exactly(0, 3, 1, 7), 1000000);
        due("w", rule(tree, 0, "g1(w=5)") * tree.exactly(0, 3, 1, 7), 1000000);
        due("f", rule(tree, 0, "g1(f=9)") * tree.exactly(0, 3, 1, 9), 1000000);
        due("n, l, o, p, t", rule(tree, 0, "g1(n=1&l=0&o=10&p=0&t=10)") * tree.exactly(0, 3, 1, 9), 1000000);
        rule(tree, 0, "g0(1=1)");
        due("s in e", law(tree, "e2(s=9)") * tree.exactly(0, 3, 1, 3), 1000000);
        due("a in e", law(tree, "e2(a=99)") * tree.exactly(0, 3, 1, 3), 1000000);
        tree.person(5, 10, 0);
        tree.person(0, 0, 0);
        due("p, t, q are 0 in e", law(tree, "e2(p=0&t=0&q=0)") * tree.exactly(0, 3, 2, 3), MOST / 1000000000);
        due("p, t, q are 0 in h", law(tree, "h2(p=0&t=0&q=0)") * tree.exactly(0, 1, 2, 7), 500);
        due("y and z of the DAYS before", law(tree, "e2(y=0&z=0)") * tree.exactly(0, 3, 1, 3), 1000000);
        tree.plant(0, 10, 0, 9);
        law(tree, "e0(1=1)");
        tree.days(2);
        rule(tree, 0, "g9(y=4)");
        tree.person(0, 10, 0);
        due("y goes on", tree.exactly(0, 3, 1, 9), 1000000);
        due("y goes on", tree.exactly(0, 2, 1, 0), 10000);
        tree.plant(0, 10, 10, 9);
        tree.days(2);
        law(tree, "e9(z=4)");
        due("z goes on", tree.exactly(0, 3, 1, 1), 1000000);
        due("z goes on", tree.exactly(0, 2, 1, 10), 10000);
    }

    private static void deadByThen() {
        sentence("cups (NONE: dead by then, WET whatever)");
        LandingTree tree = landing("e1(1=1)", "g1(1=1)", 1, 1);
        tree.person(0, 5, 0);
        due("one DAY", tree.exactly(0, 1, 1, -1), 50);
        due("by the second, too", tree.exactly(0, 2, 1, -1), 7500);
        due("it lives", tree.exactly(0, 2, 1, 1), 2500);
        due("a dead one stays as WET as it was", tree.exactly(0, 2, 1, 0), 7500);
        law(tree, "e0(1=1)");
        for (int bears = 1; bears <= 9; bears++) {
            tree.plant(0, 10, 10, bears);
            tree.plant(1, 10, 0, bears);
            rule(tree, 0, "g0(1=1)");
            for (int n = 1; n <= 9; n++) {
                due("DROWNED, " + n + " of " + bears, tree.exactly(0, n, 1, -1) > 0, n >= bears);
                due("DRY, " + n + " of " + bears, tree.exactly(1, n, 1, -1) > 0, n >= bears);
            }
        }
        tree.plant(0, 10, 10, 2);
        due("DROWNED ones, too, as WET as they were", tree.exactly(0, 3, 1, 10), 1000000);
        tree.plant(0, 10, 10, 9);
        due("DROWNED for nine DAYS, too", tree.exactly(0, 9, 1, 10), MOST);
        due("DRY for nine DAYS, too", tree.exactly(1, 9, 1, 0), MOST);
        tree.plant(1, 10, 0, 1);
        law(tree, "e9(1=1)");
        due("none gives to a dead one", rule(tree, 0, "g9(d>0)") * tree.exactly(1, 9, 1, 0), MOST);
    }

    private static void cupsAsked() {
        sentence("EXACTLY for a told PLANT that is not dead, n DAYS, m PEOPLE, cups (NONE: dead by then, WET whatever)");
        LandingTree tree = landing("e0(1=1)", "g0(1=1)", 0, 9);
        tree.plant(1, 24, 24, 9);
        due("-2", tree.exactly(0, 1, 1, -2), -1);
        due("25", tree.exactly(1, 1, 1, 25), -1);
        due("24", tree.exactly(1, 1, 1, 24), 100);
        due("0", tree.exactly(0, 1, 1, 0), 100);
        due("above its POT", tree.exactly(0, 1, 1, 11), 0);
    }

    private static void atWhatChance() {
        sentence("AT WHAT CHANCE: those m PEOPLE all with the same tenths (0 to 10; t, too) in place of theirs: by which it lives "
            + "likeliest behind n DAYS; of like ones the fewest");
        LandingTree tree = landing("e2(1=1)", "g2(1=1)", 2, 1);
        tree.person(0, 0, 0);
        for (int tenths = 0; tenths <= 10; tenths++) {
            rule(tree, 0, "g2(t=" + tenths + ")");
            due("just by " + tenths, tree.chance(0, 1, 1, 0), tenths);
            due("how likely", tree.chance(0, 1, 1, 1), 10 * tenths);
        }
        tree.person(3, 4, 1);
        tree.person(4, 4, 2);
        rule(tree, 0, "g0(1=1)");
        rule(tree, 1, "g2(1=1)");
        due("of like ones the fewest: it never lives", tree.chance(0, 1, 1, 0), 0);
        due("how likely", tree.chance(0, 1, 1, 1), 0);
        due("two", tree.chance(0, 1, 2, 0), 10);
        due("of all of two", tree.chance(0, 1, 2, 1), 1000);
        rule(tree, 0, "g1(1=1)");
        rule(tree, 1, "g1(1=1)");
        // Two of three make it live, three drown it: 3 t t (1 - t) is most by 7 tenths
        rule(tree, 2, "g1(1=1)");
        law(tree, "e2(f<4)");
        tree.plant(0, 4, 1, 1);
        due("two of three", tree.chance(0, 1, 3, 0), 7);
        due("how likely", tree.chance(0, 1, 3, 1), 3 * 7 * 7 * 3 * 10);
        law(tree, "e0(1=1)");
        tree.plant(0, 4, 3, 1);
        due("the fewest: nobody", tree.chance(0, 1, 3, 0), 0);
        due("sure", tree.chance(0, 1, 3, 1), 10000);
        due("tenths stay", tree.count(20) + tree.count(23), 4);
        sentence("AT WHAT CHANCE, likewise, what 0 tenths, 1 how likely it lives then; NONE: no such ones.");
        for (int what : new int[] {-1, 2, 10, Integer.MIN_VALUE}) {
            due("what " + what, tree.chance(0, 1, 1, what), -1);
        }
    }

    private static void whomToAsk() {
        sentence("one of them comes each DAY (tenths 10), the others 2 tenths less (0 at least): by whom it lives likeliest; of "
            + "like ones the lowest; nobody, if none is better than as it is");
        // It lives by a DAY if both come, each of whom gives two
        LandingTree tree = new LandingTree();
        law(tree, "e4(1=1)");
        rule(tree, 0, "g2(1=1)");
        tree.plant(2, 10, 1, 1);
        tree.person(7, 10, 0);
        tree.person(5, 9, 0);
        tree.person(3, 9, 0);
        due("9 of 9 is more than 10 of 7", tree.toAsk(2, 1, 2, 0), -2);
        due("as it is", tree.toAsk(2, 1, 2, 1), 810);
        tree.person(3, 5, 0);
        tree.person(5, 5, 0);
        due("like ones: the lowest", tree.toAsk(2, 1, 2, 0), 3);
        due("10 of 3", tree.toAsk(2, 1, 2, 1), 300);
        tree.person(5, 3, 0);
        due("the other one", tree.toAsk(2, 1, 2, 0), 5);
        due("10 of 3", tree.toAsk(2, 1, 2, 1), 300);
        tree.person(3, 10, 0);
        due("10 of 3 is as good as it is", tree.toAsk(2, 1, 2, 1), 800);
        due("8 of 10", tree.toAsk(2, 1, 2, 0), 5);
        tree.person(5, 10, 0);
        due("none is better", tree.toAsk(2, 1, 2, 0), -2);
        due("sure", tree.toAsk(2, 1, 2, 1), 1000);
        tree.person(5, 10, 1);
        law(tree, "e2(1=1)");
        due("as good is not better", tree.toAsk(2, 1, 2, 0), -2);
        tree.person(3, 10, 1);
        due("it dies whoever comes", tree.toAsk(2, 1, 2, 0), -2);
        due("never", tree.toAsk(2, 1, 2, 1), 0);
        due("tenths stay", tree.count(23) * 100 + tree.count(25), 1010);
        sentence("WHOM TO ASK, likewise, what 0 the PERSON (-2: nobody), 1 how likely it lives then; NONE: no such ones.");
        for (int what : new int[] {-1, 2, 10, Integer.MAX_VALUE}) {
            due("what " + what, tree.toAsk(2, 1, 1, what), -1);
        }
    }

    private static void othersLess() {
        sentence("the others 2 tenths less (0 at least)");
        for (int tenths = 0; tenths <= 10; tenths++) {
            LandingTree tree = new LandingTree();
            law(tree, "e4(1=1)");
            rule(tree, 0, "g2(1=1)");
            tree.plant(2, 10, 1, 1);
            tree.person(3, 0, 0);
            tree.person(5, tenths, 0);
            due("by PERSON 3, if 5 has " + tenths, tree.toAsk(2, 1, 2, 0), tenths > 2 ? 3 : -2);
            due("how likely", tree.toAsk(2, 1, 2, 1), Math.max(0, tenths - 2) * 100);
        }
    }

    private static void howFew() {
        sentence("HOW FEW: the fewest (0 to m) of those m PEOPLE, the lowest ones, by whom alone it lives in so many tenths of all "
            + "or more (0 to 10).");
        // It lives if somebody comes: by 5 tenths, 5 of 10 and 2 of 10 more
        LandingTree tree = new LandingTree();
        law(tree, "e2(1=1)");
        rule(tree, 0, "g2(1=1)");
        tree.plant(0, 10, 2, 1);
        tree.person(1, 5, 0);
        tree.person(4, 4, 0);
        tree.person(6, 0, 0);
        int[] due = {0, 1, 1, 1, 1, 1, 2, 2, -2, -2, -2};
        for (int tenths = 0; tenths <= 10; tenths++) {
            due("in " + tenths + " tenths", tree.few(0, 1, 3, tenths), due[tenths]);
        }
        tree.person(6, 10, 0);
        due("all three", tree.few(0, 1, 3, 10), 3);
        due("not by two of them", tree.few(0, 1, 2, 10), -2);
        due("not by two of them", tree.few(0, 1, 2, 8), -2);
        due("not by one", tree.few(0, 1, 1, 6), -2);
        tree.plant(0, 10, 3, 1);
        due("all of all by nobody", tree.few(0, 1, 3, 10), 0);
        tree.plant(0, 10, 2, 1);
        tree.person(1, 10, 0);
        due("nine DAYS", tree.few(0, 9, 1, 10), 1);
        due("four DAYS of three", tree.few(0, 4, 3, 10), 1);
        sentence("HOW FEW, likewise, by tenths (0 to 10): how many; -2: not by m; NONE: no such ones.");
        due("0 tenths", tree.few(0, 1, 1, 0), 0);
        due("10 tenths", tree.few(0, 1, 1, 10), 1);
        due("not by m", rule(tree, 0, "g1(d=1)") * tree.few(0, 1, 3, 10), -2);
        due("-1 tenths", tree.few(0, 1, 1, -1), -1);
        due("11 tenths", tree.few(0, 1, 1, 11), -1);
    }

    private static void aBiggerPot() {
        sentence("A BIGGER POT: by how much (of those tens for each DRAW) it lives likelier with a POT of told cups (as WET as it "
            + "is, that POT at most).");
        LandingTree tree = landing("e0(1=1)", "g1(1=1)", 8, 1);
        tree.plant(0, 10, 9, 1);
        tree.person(0, 4, 0);
        due("9 or 10 of 10 as it is", tree.exactly(0, 1, 1, -1), 40);
        due("of 11", tree.pot(0, 1, 1, 11), 40);
        due("of 24", tree.pot(0, 1, 1, 24), 40);
        due("of 10", tree.pot(0, 1, 1, 10), 0);
        due("of 9: full at once", tree.pot(0, 1, 1, 9), -60);
        due("of 4: 4 WET, no more than that", tree.pot(0, 1, 1, 4), -60);
        law(tree, "e1(f=4);e9(1=1)");
        due("of 4: 4 WET, 3 behind it", tree.pot(0, 1, 1, 4), 100 - 40);
        sentence("A BIGGER POT (4 to 24; WET at most that) of a told PLANT, likewise; -1000000000000: no such ones.");
        due("3", tree.pot(0, 1, 1, 3), NO_POT);
        due("25", tree.pot(0, 1, 1, 25), NO_POT);
        due("-4", tree.pot(0, 1, 1, -4), NO_POT);
        due("its own POT stays", tree.plantIs(0, 0) * 100 + tree.plantIs(0, 1), 1009);
        law(tree, "e0(1=1)");
        tree.plant(0, 10, 10, 2);
        tree.days(1);
        due("DROWNED once: 10 of 11 is not DROWNED", tree.pot(0, 1, 1, 11), 60);
        due("DROWNED once: 9 of 9 is", tree.pot(0, 1, 1, 9), 0);
        due("nine DAYS", tree.pot(0, 9, 1, 24), MOST);
    }

    private static void aRuleForEach() {
        sentence("A RULE FOR EACH: all m PEOPLE give told CUPS (1 to 9) if it is less WET than x, else none: by which x (0 to 24) it "
            + "lives likeliest behind n DAYS; of like ones the least.");
        LandingTree tree = new LandingTree();
        law(tree, "e9(1=1)");
        tree.person(0, 10, 0);
        for (int wet = 0; wet <= 9; wet++) {
            tree.plant(0, 24, wet, 1);
            due("just above " + wet, tree.ruleFor(0, 1, 1, 9, 0), wet == 0 ? 0 : wet + 1);
            due("how likely", tree.ruleFor(0, 1, 1, 9, 1), wet == 0 ? 0 : 100);
        }
        // 23 and one keep it, 24 and e of 1; what it loses else is too much for three DAYS
        law(tree, "e1(f=24);e9(1=1)");
        tree.plant(0, 24, 23, 1);
        due("the greatest", tree.ruleFor(0, 3, 1, 1, 0), 24);
        due("sure", tree.ruleFor(0, 3, 1, 1, 1), 1000000);
        law(tree, "e0(1=1)");
        due("the least: none gives", tree.ruleFor(0, 3, 1, 1, 0), 0);
        tree.person(1, 5, 0);
        tree.person(2, 5, 0);
        law(tree, "e2(1=1)");
        tree.plant(0, 24, 2, 1);
        tree.person(0, 0, 0);
        due("by all of them", tree.ruleFor(0, 1, 3, 1, 1), 7500);
        due("less WET than 3", tree.ruleFor(0, 1, 3, 1, 0), 3);
        due("each asked then", tree.ruleFor(0, 1, 3, 9, 0), 3);
        sentence("A RULE FOR EACH, likewise, by CUPS (1 to 9), what 0 x, 1 how likely it lives then; NONE: no such ones.");
        for (int cups : new int[] {-1, 0, 10, Integer.MAX_VALUE}) {
            due(cups + " CUPS", tree.ruleFor(0, 1, 1, cups, 0), -1);
        }
        for (int what : new int[] {-1, 2, Integer.MAX_VALUE}) {
            due("what " + what, tree.ruleFor(0, 1, 1, 1, what), -1);
        }
        due("1 CUP", tree.ruleFor(0, 1, 1, 1, 0), 0);
        due("9 CUPS", tree.ruleFor(0, 1, 1, 9, 0), 0);
    }

    private static void whoMovesOut() {
        sentence("WHO MOVES OUT: without whom of the m PEOPLE (its tenths 0, t, too) it lives least likely behind n DAYS; of like "
            + "ones the lowest.");
        LandingTree tree = new LandingTree();
        law(tree, "e2(1=1)");
        rule(tree, 0, "g2(1=1)");
        tree.plant(0, 10, 2, 1);
        tree.person(2, 5, 0);
        tree.person(4, 5, 0);
        tree.person(6, 8, 0);
        due("the only one", tree.movesOut(0, 1, 1, 0), 2);
        due("never", tree.movesOut(0, 1, 1, 1), 0);
        due("like ones: the lowest", tree.movesOut(0, 1, 2, 0), 2);
        due("half", tree.movesOut(0, 1, 2, 1), 500);
        due("the last", tree.movesOut(0, 1, 3, 0), 6);
        due("3 of 4", tree.movesOut(0, 1, 3, 1), 7500);
        tree.person(4, 6, 0);
        due("the one in the middle", tree.movesOut(0, 1, 2, 0), 4);
        tree.person(2, 0, 0);
        tree.person(4, 0, 0);
        due("never either way: the lowest", tree.movesOut(0, 1, 2, 0), 2);
        due("not the one without whom it lives likelier", drowner().movesOut(0, 1, 2, 0), 3);
        due("never", drowner().movesOut(0, 1, 2, 1), 0);
        sentence("WHO MOVES OUT, likewise as in exactly(), what 0 the PERSON, 1 how likely it lives then; NONE: no such ones.");
        for (int what : new int[] {-1, 2, 10, Integer.MIN_VALUE}) {
            due("what " + what, tree.movesOut(0, 1, 1, what), -1);
        }
    }

    /** PERSON 1 gives too much, PERSON 3 what is due. */
    private static LandingTree drowner() {
        LandingTree tree = new LandingTree();
        law(tree, "e2(f<10)");
        rule(tree, 0, "g9(1=1)");
        rule(tree, 1, "g2(1=1)");
        tree.plant(0, 10, 2, 1);
        tree.person(1, 5, 0);
        tree.person(3, 9, 1);
        return tree;
    }

    private static void lasts() {
        sentence("LASTS: how many DAYS (60 at most) it lives if nobody comes and no DAY is sunny");
        LandingTree tree = landing("e0(1=1)", "g9(1=1)", 5, 1);
        due("60 at most", tree.lasts(0, 0), 60);
        int[] lastDays = {0, 1, 2, 57, 58, 59, 60, 61};
        for (int day : lastDays) {
            law(tree, "e9(d=" + day + ");h9(1=1)");
            due("dead behind DAY " + day, tree.lasts(0, 0), Math.min(60, day));
        }
        sentence("How many DAYS a told PLANT that is not dead LASTS with so many cups (0 to 24) poured on it now; NONE: no such "
            + "ones.");
        law(tree, "e1(1=1)");
        tree.plant(0, 24, 0, 1);
        due("with 0", tree.lasts(0, 0), 0);
        due("with 1", tree.lasts(0, 1), 0);
        due("with 24: 23", tree.lasts(0, 24), 23);
        due("with -1", tree.lasts(0, -1), -1);
        due("with 25", tree.lasts(0, 25), -1);
        tree.plant(1, 6, 4, 2);
        for (int cups = 0; cups <= 24; cups++) {
            due("6 hold in it, " + cups, tree.lasts(1, cups), 4 + Math.min(2, cups));
        }
        for (int l : new int[] {-1, 2, 3, 4, Integer.MAX_VALUE}) {
            due("PLANT " + l, tree.lasts(l, 0), -1);
        }
        tree.plant(2, 4, 0, 1);
        tree.person(0, 0, 0);
        tree.days(1);
        due("dead", tree.lasts(2, 5), -1);
        due("DRY before counts", driedOnce().lasts(0, 0), 1);
        due("not if it is poured on", driedOnce().lasts(0, 1), 60);
    }

    /** DRY for a DAY, of three that it bears. */
    private static LandingTree driedOnce() {
        LandingTree tree = landing("e0(1=1)", "g0(1=1)", 0, 3);
        tree.days(1);
        return tree;
    }

    private static void lastsAsTheyAreThen() {
        sentence("(e asked of each, s, a as they are then, LOOKS going on)");
        LandingTree tree = landing("e1(1=1)", "g1(1=1)", 9, 1);
        tree.card(0, true);
        tree.days(3);
        // a is 1 now, d is 3
        due("a", law(tree, "e9(a=5)") * tree.lasts(0, 0), 4);
        due("d", law(tree, "e9(d=5)") * tree.lasts(0, 0), 2);
        due("w", law(tree, "e9(w=0)") * tree.lasts(0, 0), 4);
        due("f", law(tree, "e9(f=5);e1(1=1)") / 2 * tree.lasts(0, 0), 4);
        due("n", law(tree, "e9(n=1)") * tree.lasts(0, 0), 0);
        due("n of each", law(tree, "e9(n=1&d=4)") * tree.lasts(0, 0), 1);
        due("l, o, p, t, q", law(tree, "e9(l=0&o=10&p=0&t=0&q=0)") * tree.lasts(0, 0), 0);
        tree = landing("e1(1=1)", "g0(1=1)", 10, 1);
        tree.days(1);
        due("s: 10 six times more", law(tree, "e1(s=10);e9(s<10)") / 2 * tree.lasts(0, 0), 6);
        tree.plant(0, 10, 0, 9);
        law(tree, "e0(1=1)");
        due("y", tree.lasts(0, 0), 8);
        due("y, told by e", law(tree, "e0(y<3)") * tree.lasts(0, 0), 8);
        tree.plant(0, 10, 10, 9);
        due("z", law(tree, "e9(z=3);e0(1=1)") / 2 * tree.lasts(0, 0), 60);
        due("nothing happens", tree.count(0) + tree.plantIs(0, 4) + tree.plantIs(0, 1), 11);
    }

    private static void needs() {
        sentence("NEEDS: the fewest cups (0 to 24) poured on it now with which it LASTS so many DAYS (1 to 60).");
        LandingTree tree = new LandingTree();
        law(tree, "e1(1=1)");
        tree.plant(0, 24, 0, 1);
        for (int days = 1; days <= 60; days++) {
            due(days + " DAYS", tree.needs(0, days), days <= 23 ? days + 1 : -2);
        }
        law(tree, "e0(1=1)");
        tree.plant(1, 24, 5, 1);
        due("60 DAYS", tree.needs(1, 60), 0);
        due("60 DAYS", tree.needs(0, 60), 1);
        for (int days : new int[] {-1, 0, 61, Integer.MAX_VALUE, Integer.MIN_VALUE}) {
            due(days + " DAYS", tree.needs(0, days), -1);
        }
        // On the DAYS to come it must not stand at 1 to 5
        law(tree, "e0(f=0|f>5);e9(d=2);e9(d>2&f<9)");
        due("so many DAYS or more", tree.needs(1, 2), 0);
        law(tree, "e9(d=30)");
        due("till DAY 30", tree.needs(1, 30), 0);
        due("above 9 then", tree.needs(1, 31), 5);
        due("and on", tree.needs(1, 60), 5);
        for (int l : new int[] {-1, 2, 3, 4, Integer.MIN_VALUE}) {
            due("PLANT " + l, tree.needs(l, 1), -1);
        }
        sentence("NEEDS of a told PLANT that is not dead: cups; -2: by none; NONE: no such ones.");
        law(tree, "e9(1=1)");
        due("by none", tree.needs(1, 3), -2);
        due("by 14", tree.needs(1, 2), 14);
        law(tree, "e9(n=1)");
        due("n", tree.needs(1, 3), 0);
        tree.person(2, 0, 0);
        due("n is one more", tree.needs(1, 3), -2);
        law(tree, "e9(1=1)");
        tree.days(60);
        due("dead", tree.needs(1, 1), -1);
        due("no such DAYS of a dead one", tree.needs(1, 0), -1);
    }

    private static void theWeek() {
        sentence("THE WEEK: on each of the next 7 DAYS, none of them sunny, one of the lowest m told PEOPLE (1 to 3) comes and gives "
            + "as in a DAY, or nobody: rows by which it lives behind them, with the fewest comings");
        LandingTree tree = landing("e9(d=6);h9(1=1)", "g9(1=1)", 5, 1);
        due("by the 7th DAY", tree.week(0, 1, 10), 1);
        due("no later one", law(tree, "e9(d=7)") * tree.week(0, 1, 10), 0);
        due("nobody", tree.week(0, 1, 0), -3);
        due("nobody", tree.week(0, 1, 6), -3);
        due("not DRY till it dies", driedOnce().week(0, 1, 10), -2);
        sentence("THE WEEK of a told PLANT that is not dead by m PEOPLE, what 10 how many comings, 11 WET in the end");
        due("each DAY", law(tree, "e9(1=1)") * tree.week(0, 1, 10), 7);
        due("WET in the end", tree.week(0, 1, 11), 1);
        for (int m : new int[] {-1, 0, 2, 3, 4, Integer.MAX_VALUE}) {
            due(m + " of one", tree.week(0, m, 10), -1);
        }
        for (int p = 1; p < 8; p++) {
            tree.person(p, 0, 0);
            for (int m = 1; m <= 4; m++) {
                due(m + " of " + (p + 1), tree.week(0, m, 10), m <= 3 && m <= p + 1 ? 7 : -1);
            }
        }
        for (int l : new int[] {-1, 1, 3, 4, Integer.MAX_VALUE}) {
            due("PLANT " + l, tree.week(l, 1, 10), -1);
        }
        for (int what : new int[] {-1, 7, 8, 9, 12, Integer.MAX_VALUE, Integer.MIN_VALUE}) {
            due("what " + what, tree.week(0, 1, what), -1);
        }
        sentence("who comes on DAY what (0 to 6; -3: nobody); -2: by no row; NONE: no such ones, so many are not told.");
        rule(tree, 0, "g8(1=1)");
        for (int what : new int[] {0, 1, 2, 3, 4, 5, 6, 10, 11}) {
            due("by no row, " + what, tree.week(0, 3, what), -2);
        }
        due("what, though by no row", tree.week(0, 3, 7), -1);
        tree.days(60);
        due("dead", tree.week(0, 1, 10), -1);
    }

    private static void theLeastRow() {
        sentence("of like ones the least row (by DAYS the place of who comes, nobody m)");
        // It must be given 5 or more at any time before DAY 6 ends; PEOPLE 2, 3 and 7 are in places 0, 1 and 2
        LandingTree tree = new LandingTree();
        law(tree, "e9(d=6)");
        rule(tree, 1, "g5(1=1)");
        rule(tree, 2, "g5(d>2)");
        tree.plant(0, 24, 5, 1);
        tree.person(7, 0, 1);
        tree.person(3, 0, 1);
        tree.person(2, 0, 1);
        row("the first place on the first DAY", tree, 3, 2, -3, -3, -3, -3, -3, -3);
        tree.person(2, 0, 0);
        row("the second place on the first DAY", tree, 3, 3, -3, -3, -3, -3, -3, -3);
        row("by one alone that gives nothing", tree, 1, -2, -2, -2, -2, -2, -2, -2);
        tree.person(3, 0, 0);
        row("the third place on the first DAY", tree, 3, 7, -3, -3, -3, -3, -3, -3);
        tree.person(2, 0, 2);
        row("an earlier DAY goes ahead of a lower place", tree, 3, 7, -3, -3, -3, -3, -3, -3);
        row("as soon as it gives", tree, 2, -3, -3, -3, 2, -3, -3, -3);
        tree.person(3, 0, 2);
        row("the lowest place then", tree, 2, -3, -3, -3, 2, -3, -3, -3);
        rule(tree, 2, "g5(d=6)");
        row("on the last DAY", tree, 1, -3, -3, -3, -3, -3, -3, 2);
        rule(tree, 1, "g2(1=1)");
        row("fewer comings go ahead of a lesser row", tree, 3, -3, -3, -3, -3, -3, -3, 2);
        rule(tree, 2, "g2(1=1)");
        row("three comings", tree, 3, 2, 2, 2, -3, -3, -3, -3);
        due("how many", tree.week(0, 3, 10), 3);
        due("WET", tree.week(0, 3, 11), 5 + 6 - 9);
    }

    private static void row(String what, LandingTree tree, int m, int... comers) {
        for (int day = 0; day < 7; day++) {
            due(what + ", DAY " + day, tree.week(0, m, day), comers[day]);
        }
    }

    private static void asInADay() {
        sentence("comes and gives as in a DAY");
        LandingTree tree = landing("e2(1=1)", "g9(f<3)", 3, 1);
        due("runs over", tree.week(0, 1, 10), 2);
        law(tree, "e1(1=1)");
        tree.card(0, true);
        rule(tree, 0, "g3(a=99);g9(a=3)");
        row("the CARD is written on: one comes on DAY 0 and 3", tree, 1, 0, -3, -3, 0, -3, -3, -3);
        due("but for the tried DAYS alone", tree.plantIs(0, 6), -3);
        rule(tree, 0, "g3(q=0);g9(q=3)");
        row("q goes on", tree, 1, 0, 0, -3, -3, -3, -3, -3);
        due("but for the tried DAYS alone", tree.count(40), 0);
        rule(tree, 0, "g9(d=0&w=0&n=1&p=0&t=10)");
        due("d, w, n, p, t", tree.week(0, 1, 11), 10 - 7);
        rule(tree, 0, "g9(d=1&s=3)");
        due("the second DAY", tree.week(0, 1, 1), 0);
        due("d goes on", tree.week(0, 1, 0), -3);
        due("the DAY stays", tree.count(0), 0);
        due("X stays", tree.count(6), 1);
    }

    private static void aSpread() {
        sentence("A SPREAD: so many cups (0 to 24) are poured on the told PLANTS that are not dead so that the one that lasts least "
            + "then lasts longest (pots run over at that)");
        LandingTree tree = new LandingTree();
        due("none is told", tree.spread(0, 10), -2);
        due("none is told", tree.spread(24, 3), -2);
        due("-1 cups", tree.spread(-1, 10), -1);
        due("25 cups", tree.spread(25, 10), -1);
        law(tree, "e1(1=1)");
        tree.plant(3, 24, 1, 1);
        due("0 cups", tree.spread(0, 10), 0);
        due("0 cups", tree.spread(0, 3), 0);
        due("24 cups: 24 of 25", tree.spread(24, 10), 23);
        due("all of them on the one", tree.spread(24, 3), 24);
        due("0: not told", tree.spread(24, 0) + tree.spread(24, 1) + tree.spread(24, 2), 0);
        sentence("A SPREAD of cups, what 10 how long the one lasts that lasts least");
        tree.plant(0, 6, 5, 1);
        due("6 hold in it", tree.spread(24, 10), 5);
        due("what is needed", tree.spread(6, 10), 5);
        due("one", tree.spread(6, 0), 1);
        due("five", tree.spread(6, 3), 5);
        for (int what : new int[] {-1, 4, 5, 9, 11, Integer.MAX_VALUE, Integer.MIN_VALUE}) {
            due("what " + what, tree.spread(6, what), -1);
        }
        sentence("else how many PLANT what gets (0: not told, dead); -2: all are dead, none is told; NONE: no such ones.");
        tree.plant(1, 4, 4, 1);
        law(tree, "e0(1=1)");
        tree.days(1);
        law(tree, "e1(1=1)");
        due("dead", tree.spread(6, 1), 0);
        due("the others as before", tree.spread(6, 3), 5);
        law(tree, "e9(1=1)");
        tree.days(3);
        due("all are dead", tree.spread(6, 10), -2);
        due("all are dead", tree.spread(6, 1), -2);
        due("no such what", tree.spread(6, 4), -1);
        due("nothing is poured", tree.plantIs(3, 1), 0);
    }

    private static void theLeastSpread() {
        sentence("of like ones the least row (by PLANTS)");
        LandingTree tree = new LandingTree();
        law(tree, "e1(1=1)");
        for (int l = 0; l < 4; l++) {
            tree.plant(l, 24, 2, 1);
        }
        int[][] due = {{0, 0, 0, 0, 1}, {0, 0, 0, 1, 1}, {0, 0, 0, 3, 1}, {1, 1, 1, 1, 2}, {1, 1, 1, 2, 2}, {1, 1, 1, 4, 2},
            {2, 2, 2, 2, 3}};
        int[] cups = {0, 1, 3, 4, 5, 7, 8};
        for (int i = 0; i < cups.length; i++) {
            for (int l = 0; l < 4; l++) {
                due(cups[i] + " on PLANT " + l, tree.spread(cups[i], l), due[i][l]);
            }
            due("how long by " + cups[i], tree.spread(cups[i], 10), due[i][4]);
        }
        law(tree, "e0(1=1)");
        due("60 at most", tree.spread(8, 10), 60);
        due("the least row that keeps all", tree.spread(8, 3), 8);
        tree.plant(3, 10, 2, 1);
        due("it drowns by 8", tree.spread(8, 3), 7);
        due("one for the one before", tree.spread(8, 2), 1);
        due("none is in want: the last that can hold it", tree.spread(24, 2), 17);
        law(tree, "e9(d=2&l=1);e0(1=1)");
        due("d of each", tree.spread(8, 10), 60);
        due("8 for PLANT 1, on DAY 2", tree.spread(8, 1), 8);
        due("not by 7", tree.spread(7, 10), 2);
        law(tree, "e9(n=0&l=1);e0(1=1)");
        due("n", tree.spread(8, 10), 1);
        due("n", tree.spread(7, 10), 0);
        tree.person(4, 0, 0);
        due("n is one more", tree.spread(7, 10), 60);
        for (int l = 0; l < 2; l++) {
            tree = new LandingTree();
            law(tree, "e1(1=1)");
            tree.plant(l, 24, 2, 1);
            tree.plant(2, 24, 2, 1);
            tree.plant(3, 24, 20, 1);
            due("24 in all", tree.spread(24, 10), 13);
            due("no more than all", tree.spread(3, 10), 2);
            due("no more than all", tree.spread(3, l) * 100 + tree.spread(3, 2) * 10 + tree.spread(3, 3), 111);
        }
    }

    private static void late() {
        about("THE DAY goes on past 9999 in what is only reckoned (a reading: NOTES.md)");
        LandingTree tree = landing("e0(1=1)", "g1(1=1)", 5, 9);
        for (int i = 0; i < 167; i++) {
            tree.days(60);
        }
        tree.plant(0, 24, 5, 1);
        due("9999", tree.count(0), 9999);
        law(tree, "e9(d=10002)");
        due("lasts", tree.lasts(0, 0), 3);
        due("needs", tree.needs(0, 4), 5);
        tree.person(0, 10, 0);
        due("week", rule(tree, 0, "g2(1=1)") * tree.week(0, 1, 10), 3);
        rule(tree, 0, "g0(1=1)");
        due("exactly", tree.exactly(0, 3, 1, -1), 0);
        due("exactly", tree.exactly(0, 4, 1, -1), 100000000);
    }
}

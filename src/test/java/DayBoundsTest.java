/** PLANTS, PEOPLE, CARDS and DAYS (Terms 1, and the promises on them): each boundary that is named, by itself. */
public final class DayBoundsTest extends Calls {
    /** By these SEEDS the first DRAW is 0, 1, .. 9. */
    private static final int[] SEEDS = {25, 12, 1, 28, 15, 2, 33, 20, 7, 0};

    public static void main(String[] args) {
        aNewObject();
        plants();
        pots();
        wets();
        bears();
        dryAndDrowned();
        looks();
        people();
        cards();
        plantAnew();
        personAnew();
        comesBelow();
        drawsByNumbers();
        givesByNumbers();
        runsOver();
        written();
        sunny();
        worn();
        theLastDay();
        draws();
        seeds();
        daysAtOnce();
        triedAtOnce();
        poured();
        fed();
        asked();
        wouldGive();
        kept();
        counted();
        end();
    }

    private static LandingTree plant(String law, int pot, int wet, int bears) {
        LandingTree tree = new LandingTree();
        law(tree, law);
        tree.plant(0, pot, wet, bears);
        return tree;
    }

    private static void aNewObject() {
        sentence("No PLANTS, PEOPLE, RULES, LAW; THE SEED 1.");
        LandingTree tree = new LandingTree();
        due("no PLANTS", tree.count(1) + tree.count(2), 0);
        due("no PEOPLE", tree.count(3), 0);
        due("no RULES", tree.count(10) + tree.count(11) + tree.count(12) + tree.count(13), 0);
        due("no LAW", tree.count(4), 0);
        due("no tape", tree.count(5), 0);
        due("THE SEED", tree.count(6), 1);
        due("nothing to give", tree.days(60), 0);
        due("no DRAWS", tree.count(6), 1);
        due("THE DAY", tree.count(0), 60);
    }

    private static void plants() {
        sentence("PLANTS 0 to 3: told or not");
        LandingTree tree = new LandingTree();
        int[] none = {-1, 4, 5, Integer.MAX_VALUE, Integer.MIN_VALUE};
        for (int l : none) {
            due("PLANT " + l, tree.plant(l, 10, 5, 3), false);
        }
        due("none is told", tree.count(1), 0);
        for (int l = 3; l >= 0; l--) {
            due("not told", tree.plantIs(l, 0), -1);
            due("told", tree.plant(l, 10 + l, 5, 3), true);
            due("its POT", tree.plantIs(l, 0), 10 + l);
            due("bits", tree.count(1), 16 - (1 << l));
        }
        due("none is dead", tree.count(2), 0);
    }

    private static void pots() {
        sentence("a POT (4 to 24 cups hold in it)");
        LandingTree tree = new LandingTree();
        due("3", tree.plant(0, 3, 0, 1), false);
        due("25", tree.plant(0, 25, 0, 1), false);
        due("-4", tree.plant(0, -4, 0, 1), false);
        due("not told by that", tree.count(1), 0);
        due("4", tree.plant(0, 4, 0, 1), true);
        due("4 hold in it", tree.pour(0, 5), 4);
        due("24", tree.plant(0, 24, 0, 1), true);
        due("24 hold in it", tree.pour(0, 24), 24);
        due("and no more", tree.pour(0, 1), 24);
    }

    private static void wets() {
        sentence("WET (0 to the POT cups)");
        LandingTree tree = new LandingTree();
        for (int pot = 4; pot <= 24; pot++) {
            due("-1", tree.plant(0, pot, -1, 1), false);
            due("one above " + pot, tree.plant(0, pot, pot + 1, 1), false);
            due("0 of " + pot, tree.plant(0, pot, 0, 1), true);
            due("WET", tree.plantIs(0, 1), 0);
            due("the POT, " + pot, tree.plant(0, pot, pot, 1), true);
            due("WET", tree.plantIs(0, 1), pot);
        }
    }

    private static void bears() {
        sentence("BEARS (1 to 9): behind so many of either it is dead");
        LandingTree tree = new LandingTree();
        due("0", tree.plant(0, 10, 5, 0), false);
        due("10", tree.plant(0, 10, 5, 10), false);
        due("-1", tree.plant(0, 10, 5, -1), false);
        for (int bears = 1; bears <= 9; bears++) {
            for (int wet = 0; wet <= 10; wet += 10) {
                tree = plant("e0(1=1)", 10, wet, bears);
                due("BEARS", tree.plantIs(0, 2), bears);
                for (int day = 1; day <= bears; day++) {
                    due("not dead yet", tree.plantIs(0, 5), 0);
                    due("no bit", tree.count(2), 0);
                    tree.days(1);
                    due("DRY", tree.plantIs(0, 3), wet == 0 ? day : 0);
                    due("DROWNED", tree.plantIs(0, 4), wet == 0 ? 0 : day);
                }
                due("dead behind " + bears, tree.plantIs(0, 5), 1);
                due("a bit", tree.count(2), 1);
                tree.days(3);
                due("no more of it", tree.plantIs(0, 3) + tree.plantIs(0, 4), bears);
            }
        }
        tree = plant("e9(d=0|d=2);e0(1=1)", 10, 5, 2);
        tree.days(1);
        tree.pour(0, 24);
        tree.days(1);
        due("one DRY, one DROWNED are not two of either", tree.plantIs(0, 5), 0);
        due("DROWNED", tree.plantIs(0, 4), 1);
        tree.days(1);
        due("not on end", tree.plantIs(0, 5) + tree.plantIs(0, 4), 0);
    }

    private static void dryAndDrowned() {
        sentence("DRY and DROWNED DAYS on end (0 at first)");
        LandingTree tree = plant("e0(1=1)", 10, 0, 9);
        due("DRY", tree.plantIs(0, 3), 0);
        tree.plant(1, 10, 10, 9);
        due("DROWNED", tree.plantIs(1, 4), 0);
        sentence("At 0 it is DRY for a DAY more (else DRY is 0); at the POT it is DROWNED for a DAY more (else that is 0); "
            + "with BEARS of either it is dead.");
        tree.days(3);
        due("DRY", tree.plantIs(0, 3), 3);
        due("DROWNED", tree.plantIs(1, 4), 3);
        due("not the other", tree.plantIs(0, 4) + tree.plantIs(1, 3), 0);
        tree.pour(0, 1);
        due("till the DAY ends", tree.plantIs(0, 3), 3);
        law(tree, "e1(l=1)");
        tree.days(1);
        due("1 WET: not DRY", tree.plantIs(0, 3), 0);
        due("one below the POT: not DROWNED", tree.plantIs(1, 4), 0);
        law(tree, "e1(l=0);e0(1=1)");
        tree.pour(1, 1);
        tree.days(1);
        due("DRY anew", tree.plantIs(0, 3), 1);
        due("DROWNED anew", tree.plantIs(1, 4), 1);
        law(tree, "e9(1=1)");
        tree.days(1);
        due("from the POT to 1: neither", tree.plantIs(1, 3) + tree.plantIs(1, 4), 0);
        tree.days(1);
        due("all that is left is enough", tree.plantIs(1, 3), 1);
    }

    private static void looks() {
        sentence("LOOKS: how WET it was at the end of each of the last 7 DAYS (of one that is told: as WET as it is, for all of "
            + "them)");
        LandingTree tree = plant("e1(1=1)", 24, 20, 9);
        for (int k = 0; k < 7; k++) {
            due("of one just told, " + k, tree.plantIs(0, 10 + k), 20);
        }
        tree.pour(0, 4);
        due("not by pouring", tree.plantIs(0, 10), 20);
        for (int day = 1; day <= 10; day++) {
            tree.days(1);
            for (int k = 0; k < 7; k++) {
                due("behind DAY " + day + ", " + k, tree.plantIs(0, 10 + k), k < day ? 24 - day + k : 20);
            }
        }
        due("no eighth", tree.plantIs(0, 17), -1);
        due("none ahead", tree.plantIs(0, 9), -1);
        tree.plant(0, 24, 3, 9);
        for (int k = 0; k < 7; k++) {
            due("of one told anew, " + k, tree.plantIs(0, 10 + k), 3);
        }
    }

    private static void people() {
        sentence("PEOPLE 0 to 7: told or not; tenths that one comes by in a DAY (0 to 10), a RULE (0 to 3), CUPS given so far (0 "
            + "at first)");
        LandingTree tree = new LandingTree();
        int[][] none = {{-1, 5, 1}, {8, 5, 1}, {Integer.MIN_VALUE, 5, 1}, {0, -1, 1}, {0, 11, 1}, {0, 5, -1}, {0, 5, 4}};
        for (int[] x : none) {
            due("none such", tree.person(x[0], x[1], x[2]), false);
        }
        due("none is told", tree.count(3), 0);
        for (int p = 7; p >= 0; p--) {
            due("not told", tree.count(20 + p), -1);
            due("told", tree.person(p, p + 3, p % 4), true);
            due("tenths", tree.count(20 + p), p + 3);
            due("RULE", tree.count(30 + p), p % 4);
            due("CUPS", tree.count(40 + p), 0);
            due("bits", tree.count(3), 256 - (1 << p));
        }
        due("0 tenths", tree.person(3, 0, 0), true);
        due("10 tenths", tree.person(3, 10, 3), true);
    }

    private static void cards() {
        sentence("A CARD at a PLANT: the DAY on which it was watered last (NONE at first), or no card (at first).");
        LandingTree tree = landing("e0(1=1)", "g1(d>2)", 5, 9);
        due("no card at first", tree.plantIs(0, 6), -2);
        due("a CARD", tree.card(0, true), true);
        due("nothing on it at first", tree.plantIs(0, 6), -3);
        tree.days(3);
        due("nothing yet", tree.plantIs(0, 6), -3);
        tree.days(1);
        due("DAY 3", tree.plantIs(0, 6), 3);
        sentence("A CARD at a told PLANT (nothing on it), or none: true; false: no such one, it is so.");
        due("it is so", tree.card(0, true), false);
        due("what is on it stays", tree.plantIs(0, 6), 3);
        due("none", tree.card(0, false), true);
        due("it is so", tree.card(0, false), false);
        due("no card", tree.plantIs(0, 6), -2);
        due("a new one", tree.card(0, true), true);
        due("nothing on it", tree.plantIs(0, 6), -3);
        for (int l : new int[] {-1, 1, 3, 4}) {
            due("not told", tree.card(l, true), false);
            due("not told", tree.card(l, false), false);
        }
        tree.plant(2, 4, 4, 1);
        tree.days(1);
        due("at a dead one, too", tree.card(2, true), true);
        due("a DAY 0 is a DAY", landingWithCard().plantIs(0, 6), 0);
    }

    private static LandingTree landingWithCard() {
        LandingTree tree = landing("e0(1=1)", "g1(1=1)", 5, 9);
        tree.card(0, true);
        tree.days(1);
        return tree;
    }

    private static void plantAnew() {
        sentence("A PLANT (in place of the one before; no CARD): true; false: no such ones.");
        LandingTree tree = landingWithCard();
        tree.pour(0, 24);
        tree.days(2);
        due("DROWNED", tree.plantIs(0, 4), 2);
        due("none such", tree.plant(0, 3, 3, 3), false);
        due("none such", tree.plant(0, 8, 9, 3), false);
        due("none such", tree.plant(0, 8, 8, 0), false);
        due("the one before stays", tree.plantIs(0, 0) * 100 + tree.plantIs(0, 1), 1010);
        due("its CARD stays", tree.plantIs(0, 6), 2);
        due("in its place", tree.plant(0, 8, 8, 3), true);
        due("no CARD", tree.plantIs(0, 6), -2);
        due("not DROWNED", tree.plantIs(0, 4), 0);
        tree.card(0, true);
        due("nothing on a new CARD", tree.plantIs(0, 6), -3);
        tree = plant("e0(1=1)", 8, 0, 2);
        tree.days(2);
        due("dead", tree.count(2), 1);
        tree.plant(0, 8, 0, 2);
        due("not dead", tree.count(2), 0);
        due("not DRY", tree.plantIs(0, 3), 0);
        tree.days(1);
        due("not dead", tree.count(2), 0);
    }

    private static void personAnew() {
        sentence("A PERSON (in place of the one before; no CUPS given): true; false: no such ones.");
        LandingTree tree = landing("e0(1=1)", "g1(1=1)", 5, 9);
        tree.days(3);
        due("CUPS", tree.count(40), 3);
        due("none such", tree.person(0, 11, 0), false);
        due("none such", tree.person(0, 10, 4), false);
        due("the one before stays", tree.count(40) + tree.count(20), 13);
        due("in its place", tree.person(0, 10, 0), true);
        due("no CUPS given", tree.count(40), 0);
        due("THE ONE is nobody", tree.share(-1, 0), -2);
    }

    private static void comesBelow() {
        sentence("with a DRAW: below its tenths it comes");
        for (int draw = 0; draw < 10; draw++) {
            for (int tenths = 0; tenths <= 10; tenths++) {
                LandingTree tree = landing("e0(1=1)", "g1(1=1)", 5, 9);
                tree.person(0, tenths, 0);
                tree.seed(SEEDS[draw]);
                due("draw " + draw + ", " + tenths + " tenths", tree.days(1), draw < tenths ? 1 : 0);
            }
        }
    }

    private static void drawsByNumbers() {
        // The DRAWS by SEED 1: 2 7 6 5 2 9 6
        sentence("each told PERSON, by numbers: with a DRAW");
        LandingTree tree = landing("e0(1=1)", "g1(1=1)", 1, 9);
        int[] tenths = {3, 7, 7, 5, 3};
        for (int p = 4; p >= 0; p--) {
            tree.person(p, tenths[p], 0);
        }
        tree.person(1, 7, 0);
        tree.days(1);
        for (int p = 0; p < 5; p++) {
            due("PERSON " + p, tree.count(40 + p), p == 1 || p == 3 ? 0 : 1);
        }
        due("five DRAWS, and one for the sun", tree.count(6), drawn(1, 6));
        tree = new LandingTree();
        tree.person(2, 0, 0);
        tree.person(6, 10, 0);
        tree.days(1);
        due("whatever the tenths, and without a PLANT", tree.count(6), drawn(1, 2));
        sentence("(2) Each PLANT that is not dead: with a DRAW");
        tree = new LandingTree();
        law(tree, "h1(1=1)");
        tree.plant(3, 10, 5, 9);
        tree.plant(1, 4, 4, 1);
        tree.plant(0, 10, 5, 9);
        tree.days(1);
        due("2: PLANT 0", tree.plantIs(0, 1), 4);
        due("7: PLANT 1", tree.plantIs(1, 1), 4);
        due("6: PLANT 3", tree.plantIs(3, 1), 5);
        due("three DRAWS", tree.count(6), drawn(1, 3));
        due("PLANT 1 is dead", tree.count(2), 2);
        tree.days(1);
        due("two DRAWS: 5, 2", tree.count(6), drawn(1, 5));
        due("5: PLANT 0", tree.plantIs(0, 1), 4);
        due("2: PLANT 3", tree.plantIs(3, 1), 4);
    }

    private static void givesByNumbers() {
        sentence("to each PLANT that is not dead, by numbers, it gives g by its RULE (asked then; none told: 0)");
        LandingTree tree = landing("e0(1=1)", "g4(q=0);g3(q=4);g2(q=7);g1(1=1)", 1, 9);
        tree.plant(3, 10, 1, 9);
        tree.plant(1, 10, 1, 9);
        tree.plant(2, 10, 1, 9);
        due("CUPS", tree.days(1), 4 + 3 + 2 + 1);
        for (int l = 0; l < 4; l++) {
            due("PLANT " + l, tree.plantIs(l, 1), 5 - l);
        }
        tree = landing("e0(1=1)", "gf(1=1)", 1, 9);
        tree.person(3, 10, 0);
        tree.person(5, 10, 1);
        due("1 and 2, and none", tree.days(1), 3);
        due("WET", tree.plantIs(0, 1), 4);
        due("none told", tree.count(45), 0);
        tree = landing("e0(1=1)", "g2(1=1)", 1, 9);
        tree.plant(1, 4, 4, 1);
        due("to one not dead yet", tree.days(1), 4);
        due("to none that is dead", tree.days(1), 2);
        due("it stays as it was", tree.plantIs(1, 1), 4);
    }

    private static void runsOver() {
        sentence("WET is more by that; above the POT it runs over (POT at most)");
        for (int wet = 0; wet <= 10; wet++) {
            LandingTree tree = landing("e0(1=1)", "g4(1=1)", wet, 9);
            due("from " + wet, tree.tried(1, 10), Math.min(10, wet + 4));
            due("over", tree.tried(1, 1), Math.max(0, wet - 6));
            due("over, once more", tree.tried(1, 1), Math.max(0, wet - 6));
            due("over, by four DAYS", tree.tried(4, 1), Math.max(0, wet + 16 - 10));
            due("given all the same", tree.days(1), 4);
            due("WET", tree.plantIs(0, 1), Math.min(10, wet + 4));
            due("CUPS", tree.count(40), 4);
        }
    }

    private static void written() {
        sentence("If that is above 0 and there is a CARD, the DAY is written on it.");
        LandingTree tree = landing("e0(1=1)", "g1(d=0);g0(d=1);g9(d=2|d=3)", 5, 9);
        tree.plant(1, 10, 5, 9);
        tree.card(0, true);
        int[] due = {0, 0, 2, 3, 3};
        for (int day = 0; day < 5; day++) {
            tree.days(1);
            due("behind DAY " + day, tree.plantIs(0, 6), due[day]);
            due("where there is no CARD", tree.plantIs(1, 6), -2);
        }
        tree = landing("e0(1=1)", "g1(1=1)", 10, 9);
        tree.card(0, true);
        tree.days(1);
        due("all of it ran over", tree.plantIs(0, 6), 0);
    }

    private static void sunny() {
        sentence("below 5 the DAY is sunny for it");
        for (int draw = 0; draw < 10; draw++) {
            LandingTree tree = plant("e1(1=1);h2(1=1)", 10, 9, 9);
            tree.seed(SEEDS[draw]);
            due("draw " + draw, tree.tried(1, 3), draw < 5 ? 1 : 0);
            tree.days(1);
            due("WET by draw " + draw, tree.plantIs(0, 1), draw < 5 ? 6 : 8);
        }
    }

    private static void worn() {
        sentence("WET is less by e, and by h if it is sunny (both asked now; 0 at least)");
        LandingTree tree = plant("e3(f=10);h1(f=10);h2(f=7)", 24, 10, 9);
        tree.days(1);
        due("h as WET as it was for e", tree.plantIs(0, 1), 6);
        for (int wet = 0; wet <= 10; wet++) {
            tree = plant("e4(1=1);h3(1=1)", 10, wet, 9);
            tree.days(1);
            due("7 from " + wet, tree.plantIs(0, 1), Math.max(0, wet - 7));
        }
        tree = landing("ef(1=1)", "g4(1=1)", 1, 9);
        tree.days(1);
        due("asked behind the giving", tree.plantIs(0, 1), 0);
    }

    private static void theLastDay() {
        sentence("(3) THE DAY is one more (9999 at most: then none goes by)");
        LandingTree tree = landing("e1(1=1)", "g1(1=1)", 5, 9);
        due("THE DAY (0 at first)", tree.count(0), 0);
        tree.days(1);
        due("one more", tree.count(0), 1);
        for (int i = 0; i < 166; i++) {
            tree.days(60);
        }
        tree.days(29);
        due("THE DAY", tree.count(0), 9990);
        due("nine are tried", tree.tried(60, 0), 9);
        due("nine are tried", tree.tried(10, 0), 9);
        due("eight are tried", tree.tried(8, 20), 8);
        due("as many as can", tree.days(60), 9);
        due("9999", tree.count(0), 9999);
        tree.person(0, 10, 0);
        law(tree, "e5(1=1)");
        int x = tree.count(6);
        due("none goes by", tree.days(1), 0);
        due("none goes by", tree.days(60), 0);
        due("THE DAY stays", tree.count(0), 9999);
        due("X stays", tree.count(6), x);
        due("WET stays", tree.plantIs(0, 1), 5);
        due("LOOKS stay", tree.plantIs(0, 10), 5);
        due("CUPS", tree.count(40), 0);
        for (int what = 0; what < 4; what++) {
            due("none is tried, " + what, tree.tried(60, what), 0);
        }
        due("WET then", tree.tried(60, 10), 5);
        due("no such n all the same", tree.days(61), -1);
        due("what a DAY is asked on it", rule(tree, 0, "g8(d=9999&w=3)") + tree.gives(0, 0), 9);
    }

    private static void draws() {
        sentence("DRAWS: X = (25173 X + 13849) modulo 65536 (X is THE SEED at first, 1): X modulo 10.");
        LandingTree tree = new LandingTree();
        tree.plant(0, 10, 5, 9);
        due("1 at first", tree.count(6), 1);
        int x = 1;
        for (int day = 0; day < 40; day++) {
            x = drawn(x, 1);
            due("sunny", tree.tried(1, 3), x % 10 < 5 ? 1 : 0);
            tree.days(1);
            due("X", tree.count(6), x);
        }
    }

    private static void seeds() {
        sentence("THE SEED (0 to 65535; X, too): true; false: no such number.");
        LandingTree tree = new LandingTree();
        tree.plant(0, 10, 5, 9);
        for (int seed : new int[] {0, 1, 2, 32767, 32768, 65534, 65535}) {
            due("SEED " + seed, tree.seed(seed), true);
            due("X", tree.count(6), seed);
            tree.days(1);
            due("the next X", tree.count(6), drawn(seed, 1));
        }
        due("the X behind 65535", drawn(65535, 1), 54212);
        for (int seed : new int[] {-1, 65536, 131072, Integer.MAX_VALUE, Integer.MIN_VALUE}) {
            due("SEED " + seed, tree.seed(seed), false);
            due("X stays", tree.count(6), 54212);
        }
    }

    private static void daysAtOnce() {
        sentence("DAYS (1 to 60) go by (as many as can): CUPS that were given; NONE: no such n.");
        LandingTree tree = landing("e1(1=1)", "g1(1=1)", 5, 9);
        for (int n : new int[] {0, -1, 61, Integer.MAX_VALUE, Integer.MIN_VALUE}) {
            due(n + " DAYS", tree.days(n), -1);
        }
        due("none went by", tree.count(0), 0);
        due("one", tree.days(1), 1);
        due("60", tree.days(60), 60);
        due("THE DAY", tree.count(0), 61);
        due("of these alone", tree.days(2), 2);
        due("so far", tree.count(40), 63);
    }

    private static void triedAtOnce() {
        sentence("DAYS (1 to 60; as many as can) that are tried");
        LandingTree tree = landing("e1(1=1)", "g1(1=1)", 5, 9);
        tree.plant(3, 10, 2, 1);
        tree.person(7, 10, 1);
        for (int n : new int[] {0, -1, 61, Integer.MAX_VALUE}) {
            due(n + " DAYS", tree.tried(n, 0), -1);
        }
        sentence("what 0 CUPS given, 1 that ran over");
        due("one", tree.tried(1, 0), 2);
        due("60", tree.tried(60, 20), 120);
        due("60", tree.tried(60, 27), 0);
        sentence("10 + l WET of told PLANT l then, 20 + p CUPS given by told PERSON p in them; NONE: no such ones.");
        for (int what = -3; what < 40; what++) {
            boolean is = what >= 0 && what < 4 || what == 10 || what == 13 || what == 20 || what == 27;
            due("what " + what, tree.tried(1, what) >= 0, is);
        }
        due("WET", tree.tried(1, 10), 5);
        due("WET", tree.tried(1, 13), 2);
        due("THE DAY stays", tree.count(0), 0);
        due("X stays", tree.count(6), 1);
        tree.days(2);
        due("in them, not so far", tree.tried(1, 20), 2);
        sentence("2 PLANTS dead then, 3 sunny DAYS (of each PLANT)");
        tree = new LandingTree();
        tree.plant(1, 4, 4, 1);
        tree.plant(2, 4, 4, 2);
        tree.plant(3, 4, 2, 1);
        due("one", tree.tried(1, 2), 1);
        due("two", tree.tried(2, 2), 2);
        due("not the third", tree.tried(60, 2), 2);
        // 2 7 6, then 5 2 for PLANTS 2 and 3, then 9 for PLANT 3
        due("of three", tree.tried(1, 3), 1);
        due("of two more", tree.tried(2, 3), 2);
        due("of one more", tree.tried(3, 3), 2);
    }

    private static void poured() {
        sentence("CUPS are poured on a told PLANT that is not dead (0 to 24; none's): WET now; NONE: no such ones.");
        LandingTree tree = landingWithCard();
        tree.days(1);
        for (int l : new int[] {-1, 1, 3, 4}) {
            due("PLANT " + l, tree.pour(l, 1), -1);
        }
        due("-1 CUPS", tree.pour(0, -1), -1);
        due("25 CUPS", tree.pour(0, 25), -1);
        due("none", tree.pour(0, 0), 7);
        due("one", tree.pour(0, 1), 8);
        due("just the POT", tree.pour(0, 2), 10);
        due("24", tree.pour(0, 24), 10);
        due("none's", tree.count(40), 2);
        due("no DAY", tree.count(0), 2);
        tree.plant(1, 4, 4, 1);
        tree.days(1);
        due("dead", tree.pour(1, 1), -1);
        tree.plant(2, 24, 0, 9);
        due("24 into 24", tree.pour(2, 24), 24);
    }

    private static void fed() {
        sentence("Twenty bytes come behind the tape, the highest of each int first: how many it has; NONE if that would be more "
            + "than 220.");
        LandingTree tree = new LandingTree();
        for (int many = 20; many <= 220; many += 20) {
            due("feed", tree.feed(many == 20 ? 0x65312831 : 0, 0x3d312900, 0, 0, -1), many);
            due("counted", tree.count(5), many);
        }
        due("240", tree.feed(0, 0, 0, 0, 0), -1);
        due("220 stay", tree.count(5), 220);
        due("the first bytes are the first", tree.law(7), 1);
        due("as many as ever", tree.feed(0, 0, 0, 0, 0), 20);
        tree.plant(0, 24, 7, 9);
        tree = new LandingTree();
        tree.plant(0, 24, 7, 9);
        tree.feed(7, 7, 7, 7, 7);
        tree.feed(7, 7 << 24, 0, 0, 0);
        due("an int is four bytes, the lowest last", tree.check(0, 7), 6);
        tree.feed(0x01020304, 0x05060708, 0x090a0000, 0, 0);
        due("1 to 10 tenths: all of them come", tree.comes(10, 10, 0), 567);
        tree.feed(0xff000000, 0, 0, 0, 0);
        due("255 is no tenths", tree.comes(1, 0, 0), -2);
        tree.feed(0, 0x80ff0000, 0, 0, 0);
        due("128, 255", tree.whoDid(5, 1, 1, 0, 1), 3);
    }

    private static void asked() {
        sentence("Of a told PLANT, what 0 POT, 1 WET, 2 BEARS, 3 DRY, 4 DROWNED, 5 whether it is dead (1, 0)");
        LandingTree tree = plant("e9(1=1)", 12, 10, 3);
        tree.days(1);
        int[] due = {12, 1, 3, 0, 0, 0, -2, -1, -1, -1, 1, 10, 10, 10, 10, 10, 10, -1, -1, -1, -1};
        for (int what = 0; what < due.length; what++) {
            due("what " + what, tree.plantIs(0, what), due[what]);
        }
        for (int what : new int[] {-1, -2, 26, 110, Integer.MAX_VALUE, Integer.MIN_VALUE}) {
            due("what " + what, tree.plantIs(0, what), -1);
        }
        for (int l : new int[] {-1, 1, 2, 3, 4, Integer.MAX_VALUE, Integer.MIN_VALUE}) {
            due("PLANT " + l, tree.plantIs(l, 1), -1);
        }
        sentence("6 the DAY on its CARD (-2: no card, -3: nothing on it)");
        due("no card", tree.plantIs(0, 6), -2);
        tree.card(0, true);
        due("nothing on it", tree.plantIs(0, 6), -3);
        due("the DAY", landingWithCard().plantIs(0, 6), 0);
        sentence("10 + k LOOKS k DAYS ago (0 to 6: 0 the last DAY's end); NONE for others.");
        tree = plant("e1(1=1)", 24, 20, 9);
        tree.days(9);
        for (int k = 0; k < 7; k++) {
            due("LOOKS " + k, tree.plantIs(0, 10 + k), 11 + k);
        }
        due("no LOOKS -1", tree.plantIs(0, 9), -1);
        due("no LOOKS 7", tree.plantIs(0, 17), -1);
    }

    private static void wouldGive() {
        sentence("CUPS that a told PERSON would give a told PLANT now (0: dead, no RULE); NONE: no such ones.");
        LandingTree tree = landing("e0(1=1)", "g4(1=1)", 5, 9);
        tree.plant(3, 4, 4, 1);
        tree.person(7, 0, 3);
        tree.person(6, 0, 0);
        due("CUPS", tree.gives(0, 0), 4);
        due("by 0 tenths, too", tree.gives(6, 0), 4);
        due("more than hold in it", tree.gives(0, 3), 4);
        due("no RULE", tree.gives(7, 0), 0);
        for (int p : new int[] {-1, 1, 5, 8, Integer.MAX_VALUE}) {
            due("PERSON " + p, tree.gives(p, 0), -1);
        }
        for (int l : new int[] {-1, 1, 2, 4, Integer.MIN_VALUE}) {
            due("PLANT " + l, tree.gives(0, l), -1);
        }
        tree.days(1);
        due("dead", tree.gives(0, 3), 0);
        due("nobody, to a dead one", tree.gives(1, 3), -1);
        due("not dead", tree.gives(0, 0), 4);
    }

    private static void kept() {
        sentence("UNDONE: true; false: none was KEPT.");
        LandingTree tree = landing("e1(1=1)", "g3(1=1)", 5, 9);
        due("none was KEPT", tree.undo(), false);
        tree.days(1);
        due("nothing is UNDONE", tree.count(0), 1);
        sentence("KEPT: cups in all PLANTS.");
        due("one PLANT", tree.keep(), 7);
        tree.plant(1, 24, 24, 9);
        tree.plant(2, 4, 0, 1);
        tree.plant(3, 4, 4, 1);
        due("all", tree.keep(), 35);
        law(tree, "e0(1=1)");
        tree.person(0, 0, 0);
        tree.days(1);
        due("dead ones, too", tree.keep(), 35);
        due("two are dead", tree.count(2), 12);
        due("none", new LandingTree().keep(), 0);
        sentence("KEPT: PLANTS, PEOPLE, CARDS, THE DAY, X; UNDONE: as they were KEPT last.");
        tree = landingWithCard();
        tree.keep();
        tree.days(3);
        tree.keep();
        tree.days(4);
        tree.plant(1, 10, 5, 9);
        tree.plant(0, 24, 24, 9);
        tree.person(0, 3, 2);
        tree.person(5, 3, 2);
        tree.seed(77);
        law(tree, "e0(1=1);e1(1=1)");
        rule(tree, 0, "g2(1=1);g1(1=1)");
        feed(tree, "twenty bytes");
        for (int times = 0; times < 3; times++) {
            due("UNDONE", tree.undo(), true);
            int[] due = {4, 1, 0, 1, 2, 20, drawn(1, 8), -1, -1, -1, 2};
            for (int what = 0; what < due.length; what++) {
                due("count " + what, tree.count(what), due[what]);
            }
            due("POT", tree.plantIs(0, 0), 10);
            due("WET", tree.plantIs(0, 1), 9);
            due("CARD", tree.plantIs(0, 6), 3);
            due("LOOKS", tree.plantIs(0, 13), 6);
            due("tenths, RULE, CUPS", tree.count(20) * 100 + tree.count(30) * 10 + tree.count(40), 1004);
            due("none more", tree.plantIs(1, 0) + tree.count(25), -2);
            tree.days(2);
            tree.card(0, false);
        }
        due("a PLANT that was not told when KEPT", goneAgain(), 0);
    }

    private static int goneAgain() {
        LandingTree tree = new LandingTree();
        tree.keep();
        tree.plant(2, 10, 5, 9);
        tree.person(2, 10, 0);
        tree.undo();
        return tree.count(1) + tree.count(3);
    }

    private static void counted() {
        sentence("10 + k CLAUSES of RULE k (0: none), 20 + p tenths, 30 + p RULE, 40 + p CUPS given of told PERSON p. NONE for "
            + "others.");
        LandingTree tree = new LandingTree();
        for (int what = -20; what < 200; what++) {
            int due = what == 6 ? 1 : what >= 0 && what < 6 || what >= 10 && what < 14 ? 0 : -1;
            due("new, " + what, tree.count(what), due);
        }
        for (int p = 0; p < 8; p++) {
            tree.person(p, 10 - p, 3 - p / 2);
        }
        for (int p = 0; p < 8; p++) {
            due("tenths", tree.count(20 + p), 10 - p);
            due("RULE", tree.count(30 + p), 3 - p / 2);
            due("CUPS", tree.count(40 + p), 0);
        }
        for (int what : new int[] {7, 8, 9, 14, 19, 28, 29, 38, 39, 48, 49, 50, 120, Integer.MAX_VALUE, Integer.MIN_VALUE}) {
            due("what " + what, tree.count(what), -1);
        }
        sentence("4 CLAUSES of THE LAW, 5 bytes of the tape, 6 X");
        law(tree, times(14, "e1(1=1)", ";"));
        due("CLAUSES", tree.count(4), 14);
        feed(tree, times(220, "x", ""));
        due("bytes", tree.count(5), 220);
        tree.seed(65535);
        due("X", tree.count(6), 65535);
        sentence("0 THE DAY, 1 told PLANTS (bits), 2 dead ones (bits), 3 told PEOPLE (bits)");
        tree = new LandingTree();
        tree.plant(3, 4, 4, 1);
        tree.plant(1, 4, 2, 1);
        tree.plant(0, 4, 0, 2);
        tree.person(6, 5, 1);
        tree.days(1);
        due("THE DAY", tree.count(0), 1);
        due("told", tree.count(1), 11);
        due("dead", tree.count(2), 8);
        due("PEOPLE", tree.count(3), 64);
        tree.days(1);
        due("dead", tree.count(2), 9);
    }
}

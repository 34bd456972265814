/** RULES and THE LAW (Terms 1): each sentence that names a boundary case, by itself. */
public final class TextBoundsTest extends Calls {
    private static final String DIGITS = "0123456789";
    private static final String E_BEGINS = DIGITS + "dwlofsyzptnaq[";
    private static final String C_BEGINS = E_BEGINS + "(!";

    public static void main(String[] args) {
        bytes();
        blanks();
        noneAtFirst();
        clauses();
        theFirstThatHolds();
        givenBounds();
        wornBounds();
        priceBounds();
        parts();
        fromTheLeftOn();
        digits();
        daysOfLetters();
        lettersOfThePlant();
        lettersOfThePerson();
        notTold();
        bits();
        dividedByNothing();
        asMuchAsMatters();
        theEnd();
        everySign();
        theSixthDigit();
        theFifteenthClause();
        theSeventhOpen();
        theFirstFromTheLeft();
        end();
    }

    private static boolean holds(String when) {
        return given("g7(" + when + ");g3(1=1)") == 7;
    }

    /** A text of so many bytes that is as it must be: "e11111+1+1(1=1)". */
    private static String long1(int bytes) {
        StringBuilder text = new StringBuilder("e1");
        while (text.length() + 5 < bytes) {
            text.append(text.length() + 6 == bytes ? "1" : "+1");
        }
        return text + "(1=1)";
    }

    private static void bytes() {
        sentence("RULES 0 to 3: TEXTS of at most 200 bytes");
        due("199 bytes", law(new LandingTree(), long1(199)), 1);
        due("200 bytes", law(new LandingTree(), long1(200)), 1);
        due("as long as told", long1(200).length(), 200);
        LandingTree tree = new LandingTree();
        due("201 bytes", law(tree, long1(201)), -1);
        due("the tape stays", tree.count(5), 220);
        due("200 of them: the end comes too early", tree.law(200), -1200);
        for (int k = 0; k < 4; k++) {
            due("RULE " + k, rule(tree, k, long1(200).replace('e', 'g')), 1);
            due("RULE " + k, rule(tree, k, long1(201).replace('e', 'g')), -1);
            due("RULE " + k, tree.rule(k, 200), -1200);
        }
        feed(tree, "g1(1=1)");
        due("no RULE 4", tree.rule(4, 7), -1);
        due("no RULE -1", tree.rule(-1, 7), -1);
        due("the tape stays", tree.count(5), 20);
        sentence("THE LAW by the first n bytes of the tape (1 to 200; empty then)");
        tree = new LandingTree();
        feed(tree, long1(220));
        due("0", tree.law(0), -1);
        due("-1", tree.law(-1), -1);
        due("201", tree.law(201), -1);
        due("1", tree.law(1), -1001);
        due("empty then, all of it", tree.count(5), 0);
        feed(tree, "e1(1=1);h1(1=1)     ");
        due("just as many as there are", tree.law(20), -1015);
        sentence("NONE: no such n, it has not so many (the tape stays).");
        feed(tree, "e1(1=1);h1(1=1)     ");
        due("one more than there are", tree.law(21), -1);
        due("the tape stays", tree.count(5), 20);
        due("0", tree.law(0), -1);
        due("201", tree.law(201), -1);
        due("the tape stays", tree.count(5), 20);
        due("just the first", tree.law(7), 1);
        due("not what comes behind them", tree.count(4), 1);
        due("none at all", tree.law(1), -1);
        sentence("RULE k likewise.");
        feed(tree, "g1(1=1);");
        due("0", tree.rule(0, 0), -1);
        due("201", tree.rule(0, 201), -1);
        due("21", tree.rule(0, 21), -1);
        due("the tape stays", tree.count(5), 20);
        due("one byte", tree.rule(0, 1), -1001);
        due("empty then", tree.count(5), 0);
    }

    private static void blanks() {
        sentence("no blanks (none at first)");
        String text = "e1+w(d=0&!(n>1));h2(f<3)";
        for (int i = 0; i <= text.length(); i++) {
            String with = text.substring(0, i) + " " + text.substring(i);
            due("a blank at " + i, law(new LandingTree(), with), -1000 - i);
        }
        due("no blank", law(new LandingTree(), text), 2);
    }

    private static void noneAtFirst() {
        sentence("TEXTS of at most 200 bytes, no blanks (none at first)");
        LandingTree tree = new LandingTree();
        tree.plant(0, 10, 5, 1);
        for (int k = 0; k < 4; k++) {
            due("CLAUSES of RULE " + k, tree.count(10 + k), 0);
            tree.person(k, 10, k);
            due("by RULE " + k, tree.gives(k, 0), 0);
        }
        due("CLAUSES of THE LAW", tree.count(4), 0);
        tree.days(5);
        due("nothing comes, nothing goes", tree.plantIs(0, 1), 5);
    }

    private static void clauses() {
        sentence("CLAUSES (14 at most) with a ; (59) between two");
        LandingTree tree = new LandingTree();
        for (int many = 1; many <= 14; many++) {
            due(many + " of THE LAW", law(tree, times(many, "h1(1=1)", ";")), many);
            due("counted", tree.count(4), many);
            due(many + " of a RULE", rule(tree, 2, times(many, "g1(1=1)", ";")), many);
            due("counted", tree.count(12), many);
        }
        due("15", law(tree, times(15, "h1(1=1)", ";")), -4112);
        due("15", rule(tree, 2, times(15, "g1(1=1)", ";")), -4112);
        due("THE LAW stays", tree.count(4), 14);
        due("the RULE stays", tree.count(12), 14);
        for (char sign : ":,<. )(eg|&".toCharArray()) {
            due("no ; but " + sign, law(tree, "e1(1=1)" + sign + "e1(1=1)"), -1007);
        }
        due("nothing between", law(tree, "e1(1=1)e1(1=1)"), -1007);
        due("two", law(tree, "e1(1=1);;e1(1=1)"), -1008);
        due("ahead", law(tree, ";e1(1=1)"), -1000);
        due("behind", law(tree, "e1(1=1);"), -1008);
    }

    private static void theFirstThatHolds() {
        sentence("of the first one whose C holds the E");
        due("the first of two", given("g4(1=1);g5(1=1)"), 4);
        due("the second, as the first does not", given("g4(1=2);g5(1=1);g6(1=1)"), 5);
        due("the last of 14", given(times(13, "g4(1=2)", ";") + ";g8(1=1)"), 8);
        LandingTree tree = landing("h9(1=1);e0(1=2);c9(1=1);e3(1=1);e7(1=1)", "g0(1=1)", 9, 9);
        tree.seed(2);
        tree.days(1);
        due("of its letter", tree.plantIs(0, 1), 6);
        due("the first one's FAULT is not another's E", given("g1/0(1=1);g5(1=1)"), 0);
    }

    private static void givenBounds() {
        sentence("how many CUPS one gives (0 to 9; beyond these the bound; none: 0)");
        due("8", given("g8(1=1)"), 8);
        due("9", given("g9(1=1)"), 9);
        due("10", given("g10(1=1)"), 9);
        due("99999", given("g99999(1=1)"), 9);
        due("1", given("g1(1=1)"), 1);
        due("0", given("g0(1=1)"), 0);
        due("-1", given("g0-1(1=1)"), 0);
        due("as low as can be", given("g65536*32768(1=1)"), 0);
        due("none", given("g9(1=2)"), 0);
    }

    /** How WET a PLANT of 24 CUPS is behind a DAY; the first DRAW of SEED 1 is 2, sunny, of SEED 0 it is 9. */
    private static int wetBehind(String law, boolean sunny) {
        LandingTree tree = new LandingTree();
        law(tree, law);
        tree.seed(sunny ? 1 : 0);
        tree.plant(0, 24, 24, 9);
        tree.days(1);
        return tree.plantIs(0, 1);
    }

    private static void wornBounds() {
        sentence("e how many CUPS go in a DAY (0 to 9)");
        due("1", wetBehind("e1(1=1)", false), 23);
        due("9", wetBehind("e9(1=1)", false), 15);
        due("10", wetBehind("e10(1=1)", false), 15);
        due("0", wetBehind("e0(1=1)", false), 24);
        due("-1", wetBehind("e0-1(1=1)", false), 24);
        due("none", wetBehind("e9(1=2)", false), 24);
        due("no clause", wetBehind("b9(1=1)", false), 24);
        sentence("h for how many sunny ones (asked likewise) more (0 to 9)");
        due("1 more", wetBehind("e2(1=1);h1(1=1)", true), 21);
        due("9 more", wetBehind("e2(1=1);h9(1=1)", true), 13);
        due("10 more", wetBehind("e2(1=1);h10(1=1)", true), 13);
        due("9 and 9", wetBehind("e10(1=1);h10(1=1)", true), 6);
        due("-1 more", wetBehind("e2(1=1);h0-1(1=1)", true), 22);
        due("none", wetBehind("e2(1=1);h9(1=2)", true), 22);
        due("the first that holds", wetBehind("h5(1=2);h4(1=1);h3(1=1)", true), 20);
        due("divided by nothing", wetBehind("h5/0(1=1);h4(1=1)", true), 24);
        due("not when it is not sunny", wetBehind("e2(1=1);h9(1=1)", false), 22);
    }

    private static void priceBounds() {
        // Two may water: if it costs just what it brings, the row without any is a third that nobody gains by leaving
        sentence("c what giving costs one (0 to 99)");
        LandingTree tree = new LandingTree();
        law(tree, "c100(1=1);b100(1=1)");
        due("99 at most: less than 100", tree.alone(2, 0), 2);
        law(tree, "c99(1=1);b99(1=1)");
        due("99 is 99", tree.alone(2, 0), 3);
        law(tree, "c100(1=1);b99(1=1)");
        due("99 again", tree.alone(2, 0), 3);
        law(tree, "c0-1(1=1);b0(1=1)");
        due("0 at least: as good as not", tree.alone(2, 0), 4);
        law(tree, "b5(1=1)");
        due("none: 0", tree.alone(2, 2), 10);
        // Three at 90 each: by 7 tenths 1000 would be enough, 999 is not
        sentence("b what a PLANT that lives is worth to one (0 to 999)");
        law(tree, "c90(1=1);b1000(1=1)");
        due("999 at most", tree.alone(3, 2), 6);
        law(tree, "c90(1=1);b99999(1=1)");
        due("999 at most", tree.alone(3, 2), 6);
        law(tree, "c89(1=1);b989(1=1)");
        due("989 by 7 tenths", tree.alone(3, 2), 7);
        law(tree, "c0(1=1);b0-1(1=1)");
        due("0 at least: it is worth nothing", tree.alone(2, 0), 4);
        due("0 at least: by all tenths", tree.alone(2, 2), 10);
        law(tree, "c1(1=1)");
        due("none: 0", tree.alone(2, 2), -2);
    }

    private static void parts() {
        sentence("C: PARTS with a | between two, one of which must hold");
        due("the first", holds("1=1|1=2"), true);
        due("the last", holds("1=2|1=2|1=1"), true);
        due("none", holds("1=2|1=2|1=2"), false);
        sentence("PIECES with an & between two, all of which must");
        due("all", holds("1=1&1=1&1=1"), true);
        due("not the first", holds("1=2&1=1&1=1"), false);
        due("not the last", holds("1=1&1=1&1=2"), false);
        due("& binds more than |", holds("1=1|1=2&1=2"), true);
        due("& binds more than |", holds("1=2&1=1|1=1"), true);
        due("but for ( )", holds("(1=1|1=2)&1=2"), false);
        sentence("a PIECE: !PIECE, (C), or E, one of < > =, and E");
        due("! of a PIECE alone", holds("!1=2&1=1"), true);
        due("! of a PIECE alone", holds("!1=1|1=1"), true);
        due("! of ( )", holds("!(1=2|1=1)"), false);
        due("! of <", holds("!2<1") && !holds("!1<2"), true);
        due("! of >", holds("!1>2") && !holds("!2>1"), true);
        due("twice", holds("!!1=2"), false);
        due("less", holds("1<2") && !holds("2<2") && !holds("3<2"), true);
        due("more", holds("3>2") && !holds("2>2") && !holds("1>2"), true);
        due("the same", holds("2=2") && !holds("1=2") && !holds("3=2"), true);
    }

    private static void fromTheLeftOn() {
        sentence("E: TERMS with + or - between two; a TERM: FACTORS with one of * / % between two; from the left on");
        due("9 - 4 - 3", given("g9-4-3(1=1)"), 2);
        due("9 - 4 + 3", given("g9-4+3(1=1)"), 8);
        due("8 / 4 * 2", given("g8/4*2(1=1)"), 4);
        due("8 * 2 / 4", given("g8*2/4(1=1)"), 4);
        due("7 % 4 * 2", given("g7%4*2(1=1)"), 6);
        due("2 * 7 % 4", given("g2*7%4(1=1)"), 2);
        due("80 / 4 / 4", given("g80/4/4(1=1)"), 5);
        due("1 + 2 * 3", given("g1+2*3(1=1)"), 7);
        due("[1 + 2] * 3", given("g[1+2]*3(1=1)"), 9);
        due("9 - [4 - 3]", given("g9-[4-3](1=1)"), 8);
    }

    private static void digits() {
        sentence("a number of one to five digits");
        due("one", holds("7=7"), true);
        due("five", holds("99999=9*11111"), true);
        due("noughts ahead", holds("00007=7"), true);
        due("0", holds("00000=0"), true);
        LandingTree tree = new LandingTree();
        due("none", law(tree, "e(1=1)"), -1001);
        due("six", law(tree, "e123456(1=1)"), -2006);
        due("six, noughts ahead", law(tree, "e000001(1=1)"), -2006);
        due("beside the digits", law(tree, "e:(1=1)"), -1001);
        due("beside the digits", law(tree, "e1:(1=1)"), -1002);
        due("beside the digits", law(tree, "e1(1=:)"), -1005);
    }

    private static void daysOfLetters() {
        sentence("d THE DAY, w THE DAY modulo 7");
        LandingTree tree = landing("e0(1=1)", "g1(1=1)", 5, 9);
        tree.person(0, 0, 0);
        for (int day = 0; day < 16; day++) {
            rule(tree, 0, "g7(d=" + day + "&w=" + day % 7 + ")");
            due("on DAY " + day, tree.gives(0, 0), 7);
            tree.days(1);
        }
        sentence("s how WET it was at the end of the DAY 7 DAYS ago (LOOKS)");
        tree = landing("e1(1=1)", "gs-11(1=1)", 20, 9);
        tree.plant(0, 24, 20, 9);
        tree.person(0, 0, 0);
        int[] due = {9, 9, 9, 9, 9, 9, 9, 8, 7, 6};
        for (int day = 0; day < due.length; day++) {
            due("on DAY " + day, tree.gives(0, 0), due[day]);
            tree.days(1);
        }
    }

    private static void lettersOfThePlant() {
        sentence("of the PLANT l its number, o its POT, f how WET it is");
        LandingTree tree = landing("e0(1=1)", "gl+o*f(1=1)", 2, 9);
        tree.plant(0, 4, 2, 9);
        tree.plant(3, 4, 1, 9);
        due("PLANT 0", tree.gives(0, 0), 8);
        due("PLANT 3", tree.gives(0, 3), 7);
        sentence("y DRY, z DROWNED DAYS");
        tree.plant(0, 4, 0, 9);
        tree.plant(3, 4, 4, 9);
        rule(tree, 0, "gy*2+z*3(1=1)");
        tree.person(0, 0, 0);
        tree.days(2);
        due("DRY", tree.gives(0, 0), 4);
        due("DROWNED", tree.gives(0, 3), 6);
        sentence("a how many DAYS ago the CARD says (99: no card, or never)");
        tree = landing("e0(1=1)", "g1(d=1)", 5, 9);
        rule(tree, 1, "g7(a=99)");
        rule(tree, 2, "ga(1=1)");
        tree.person(1, 0, 1);
        tree.person(2, 0, 2);
        due("no card", tree.gives(1, 0), 7);
        tree.card(0, true);
        due("never", tree.gives(1, 0), 7);
        tree.days(1);
        due("still never", tree.gives(1, 0), 7);
        tree.days(1);
        for (int ago = 1; ago < 5; ago++) {
            due("that many DAYS", tree.gives(2, 0), ago);
            tree.days(1);
        }
        tree.card(0, false);
        due("no card any more", tree.gives(1, 0), 7);
        tree = landing("e0(1=1)", "g1(1=1)", 5, 9);
        tree.card(0, true);
        tree.person(1, 10, 1);
        rule(tree, 1, "g3(a=0);g7(1=1)");
        tree.days(1);
        due("on the DAY itself 0", tree.count(41), 3);
    }

    private static void lettersOfThePerson() {
        sentence("p the PERSON, t its tenths, n how many told PEOPLE there are");
        LandingTree tree = landing("e0(1=1)", "g5(p=0&t=10&n=1)", 5, 9);
        due("one", tree.gives(0, 0), 5);
        tree.person(0, 10, 0);
        due("told twice is one", tree.gives(0, 0), 5);
        tree.person(7, 0, 1);
        rule(tree, 1, "g6(p=7&t=0&n=2)");
        due("the last", tree.gives(7, 0), 6);
        due("two", tree.gives(0, 0), 0);
        for (int p = 0; p < 8; p++) {
            tree.person(p, 3, 1);
        }
        rule(tree, 1, "gn(t=3)");
        due("eight", tree.gives(4, 0), 8);
        sentence("q CUPS given so far by this PERSON");
        tree = landing("e0(1=1)", "g3(q=0);g2(q=3);g1(q=5)", 5, 9);
        tree.plant(1, 10, 5, 9);
        tree.person(3, 0, 0);
        tree.days(1);
        due("asked for each PLANT", tree.count(40), 5);
        due("of this one alone", tree.gives(3, 0), 3);
        due("so far", tree.gives(0, 0), 1);
    }

    private static void notTold() {
        sentence("(t, q in g alone; a in g, e, h; p in g, c, b). (Where they are not told they are 0.)");
        for (String letter : new String[] {"e", "h"}) {
            for (String none : new String[] {"t", "q", "p"}) {
                LandingTree tree = new LandingTree();
                law(tree, letter + "1+" + none + "(1=1)");
                rule(tree, 0, "g2(1=1)");
                tree.plant(1, 24, 20, 9);
                tree.person(5, 10, 0);
                // The second DRAW of SEED 12, for the sun, is 4
                tree.seed(12);
                tree.days(1);
                due(none + " in " + letter, tree.plantIs(1, 1), 21);
            }
            LandingTree tree = new LandingTree();
            law(tree, letter + "a(1=1)");
            tree.plant(1, 24, 20, 9);
            tree.days(1);
            due("a in " + letter + ": 99", tree.plantIs(1, 1), 11);
        }
        LandingTree tree = new LandingTree();
        rule(tree, 0, "g2(1=1)");
        for (int p = 0; p < 3; p++) {
            tree.person(p, 10, 0);
        }
        tree.plant(3, 24, 0, 9);
        tree.plant(2, 10, 10, 9);
        tree.card(3, true);
        tree.days(2);
        for (char none : "lofsyzatq".toCharArray()) {
            // With c and b of 1 each, two may water in three rows; with b of 0 in the one row without any
            law(tree, "c1+" + none + "(1=1);b1(1=1)");
            due(none + " in c", tree.alone(2, 0), 3);
            law(tree, "c1(1=1);b1+" + none + "(1=1)");
            due(none + " in b", tree.alone(2, 0), 3);
        }
        law(tree, "c1+p(1=1);b1(1=1)");
        due("p in c", tree.alone(2, 0), 2);
        law(tree, "c1(1=1);bp(1=1)");
        due("p in b", tree.alone(2, 0), 2);
        law(tree, "c3+2(1=1);bn+d(1=1)");
        due("n, d in b", tree.alone(2, 0), 3);
        law(tree, "cw(1=1);b2(1=1)");
        due("w in c", tree.alone(2, 0), 3);
    }

    private static void bits() {
        sentence("All is reckoned with 32 bits, as the machine does");
        due("the greatest and one", holds("32768*65535+32767+1<0"), true);
        due("the greatest", holds("32768*65535+32767>0"), true);
        due("twice 65536 bits", holds("65536*65536=0"), true);
        due("below the least", holds("0-65536*32768-1>0"), true);
        due("the least by -1", holds("65536*32768/[0-1]=65536*32768"), true);
        due("the least modulo -1", holds("65536*32768%[0-1]=0"), true);
        due("cut towards 0", holds("[0-7]/2=0-3&7/[0-2]=0-3"), true);
        due("as what is divided", holds("[0-7]%3=0-1&7%[0-3]=1"), true);
    }

    private static void dividedByNothing() {
        sentence("what is divided by 0 is REFUSED: then the C as a whole does not hold (through any !, ( ) and |)");
        for (String by : new String[] {"1/0", "1%0", "0/0", "0%0", "1/[f-5]", "1%[f-5]"}) {
            due(by, holds(by + "=0"), false);
            due(by + " at the right", holds("0=" + by), false);
            due("not " + by, holds("!" + by + "=0"), false);
            due("not not " + by, holds("!!" + by + "=0"), false);
            due("not (" + by + ")", holds("!(" + by + "=0)"), false);
            due(by + " or", holds(by + "=0|1=1"), false);
            due("(" + by + ") or", holds("(" + by + "=0)|1=1"), false);
            due("(" + by + " or) and", holds("(" + by + "=0|1=1)&1=1"), false);
            due("not all of (" + by + ")", holds("!(1=1&" + by + "=0)|1=1"), false);
            due("[" + by + "] times 0", holds("0*[" + by + "]=0"), false);
        }
        due("the next CLAUSE is asked", given("g7(1/0=0);g3(1=1)"), 3);
        due("0 by something", holds("0/5=0&0%5=0"), true);
        sentence("an E is 0");
        due("an E", given("g7/0(1=1);g3(1=1)"), 0);
        due("an E", given("g7%0(1=1);g3(1=1)"), 0);
        due("all of it", given("g5+7/0(1=1)"), 0);
        due("all of it", given("g7/0+5(1=1)"), 0);
        due("all of it", given("g5+[7%[f-f]](1=1)"), 0);
        LandingTree tree = new LandingTree();
        law(tree, "c9/0(1=1);b9%0+5(1=1)");
        due("c, b", tree.alone(2, 2), 10);
        due("c, b", tree.alone(2, 0), 4);
    }

    private static void asMuchAsMatters() {
        sentence("Of a C as much is asked, from the left, as matters.");
        due("not behind what holds", holds("1=1|1/0=0"), true);
        due("not behind what does not", holds("!(1=2&1/0=0)"), true);
        due("the PART alone", holds("1=2&1/0=0|1=1"), true);
        due("in ( )", holds("(1=1|1/0=0)&1=1"), true);
        due("in ( )", holds("(1=2&1/0=0)|1=1"), true);
        due("of three", holds("1=2|1=1|1/0=0"), true);
        due("of three", holds("!(1=1&1=2&1/0=0)"), true);
        due("what comes first is asked", holds("1/0=0|1=1"), false);
        due("it still matters", holds("1=2|1/0=0|1=1"), false);
        due("it still matters", holds("1=1&1/0=0|1=1"), false);
        due("a later PART", holds("1=1&1=2|1/0=0|1=1"), false);
    }

    private static void theEnd() {
        sentence("1 what can't stand there (the end, too)");
        String text = "e12+f*[d-3](d=0&!(n>1|[f]<2));h3(w=6)";
        int first = text.indexOf(";");
        LandingTree tree = new LandingTree();
        for (int n = 1; n < text.length(); n++) {
            due("the end at " + n, law(tree, text.substring(0, n)), n == first ? 1 : -1000 - n);
        }
        due("the whole", law(tree, text), 2);
        String rule = "gq(a>9)";
        for (int n = 1; n < rule.length(); n++) {
            due("the end at " + n, rule(tree, 0, rule.substring(0, n)), -1000 - n);
        }
        due("the whole", rule(tree, 0, rule), 1);
    }

    private static void everySign() {
        sentence("FAULTS, the first from the left: 1 what can't stand there");
        String behindNumber = DIGITS + "+-*/%";
        String[][] places = {
            {"", "ehcb"}, {"e", E_BEGINS}, {"h", E_BEGINS}, {"e1", behindNumber + "("}, {"ed", "+-*/%("},
            {"e1+", E_BEGINS}, {"e1*", E_BEGINS}, {"e[", E_BEGINS}, {"e[1", behindNumber + "]"}, {"e[d", "+-*/%]"},
            {"e[d]", "+-*/%("}, {"e1(", C_BEGINS}, {"e1(1", behindNumber + "<>="}, {"e1(d", "+-*/%<>="},
            {"e1(d%", E_BEGINS}, {"e1(d<", E_BEGINS}, {"e1(d>", E_BEGINS}, {"e1(d=", E_BEGINS}, {"e1(d=1", behindNumber + "&|)"},
            {"e1(d=d", "+-*/%&|)"}, {"e1(d=[d]", "+-*/%&|)"}, {"e1(d=1&", C_BEGINS}, {"e1(d=1|", C_BEGINS},
            {"e1(!", C_BEGINS}, {"e1((", C_BEGINS}, {"e1((d=d", "+-*/%&|)"}, {"e1((d=d)", "&|)"}, {"e1(!d=d", "+-*/%&|)"},
            {"e1(d=d)", ";"}, {"e1(d=d);", "ehcb"}, {"e12345", "+-*/%("}
        };
        for (String[] place : places) {
            everySignAt(place[0], place[1]);
        }
        LandingTree tree = new LandingTree();
        for (int sign = 0; sign < 256; sign++) {
            feed(tree, sign);
            due("a RULE begins with " + sign, tree.rule(0, 1), sign == 'g' ? -1001 : -1000);
        }
    }

    private static void everySignAt(String before, String can) {
        LandingTree tree = new LandingTree();
        for (int sign = 0; sign < 256; sign++) {
            int n = before.length();
            int[] bytes = (before + (char) sign).chars().toArray();
            feed(tree, bytes);
            int answer = tree.law(n + 1);
            boolean stands = answer > 0 || answer == -1000 - (n + 1);
            boolean isDigit = n == 6 && sign >= '0' && sign <= '9';
            due(before + " and sign " + sign, stands, can.indexOf((char) sign) >= 0);
            due(before + " and sign " + sign, stands || answer == (isDigit && before.equals("e12345") ? -2006 : -1000 - n), true);
        }
    }

    private static void theSixthDigit() {
        sentence("2 a sixth digit, at it");
        LandingTree tree = new LandingTree();
        for (int digit = 0; digit < 10; digit++) {
            due("a sixth " + digit, law(tree, "e12345" + digit + "(1=1)"), -2006);
        }
        due("five", law(tree, "e12345(1=1)"), 1);
        due("in C", law(tree, "e1(000000=1)"), -2008);
        due("at the right", law(tree, "e1(1=123456)"), -2010);
        due("in [ ]", law(tree, "e[111111](1=1)"), -2007);
        due("six and more", law(tree, "e1234567890(1=1)"), -2006);
        due("two of five", law(tree, "e12345+12345(12345=12345)"), 1);
        due("of a RULE", rule(tree, 0, "g123456"), -2006);
    }

    private static void theFifteenthClause() {
        sentence("4 a 15th CLAUSE, at its letter (if that can stand there)");
        LandingTree tree = new LandingTree();
        String all = times(14, "e1(1=1)", ";");
        for (int sign = 0; sign < 256; sign++) {
            int[] bytes = (all + ";" + (char) sign).chars().toArray();
            feed(tree, bytes);
            due("sign " + sign, tree.law(bytes.length), "ehcb".indexOf((char) sign) >= 0 ? -4112 : -1112);
        }
        due("the end", law(tree, all + ";"), -1112);
        due("whatever comes behind it", law(tree, all + ";e((("), -4112);
        due("another sign for ;", law(tree, all + ",e1(1=1)"), -1111);
        String rules = times(14, "g1(1=1)", ";");
        due("of a RULE", rule(tree, 0, rules + ";g"), -4112);
        due("of a RULE, not g", rule(tree, 0, rules + ";e"), -1112);
        due("14 stand", rule(tree, 0, rules), 14);
        due("an earlier FAULT", law(tree, "e1(1=1;" + all), -1006);
    }

    private static void theSeventhOpen() {
        sentence("5 a seventh of ( [ ! that are open in one another, at it (the ( of the CLAUSE counts; a ! is open till its "
            + "PIECE ends; the E of a CLAUSE stands ahead of it)");
        String[] six = {
            "e1((((((d=0))))))", "e1(!!!!!d=0)", "e1([[[[[d]]]]]=0)", "e1(d=[[[[[d]]]]])", "e1(!(!([d]=0)))", "e1((!(![d]=[d])))",
            "e1(!d=0&!d=0&!d=0&!d=0&!d=0&!d=0&!d=0)", "e1((d=0)&(d=0)|(d=0)&(d=0)&(d=0)&(d=0)&(d=0))",
            "e1([d]+[d]+[d]+[d]+[d]+[d]+[d]=0)", "e1(!!!!!d=0&(((((d=0))))))", "e1(((((d=0))))&!!!!!d=0)",
            "e1(!!!![d]=[d]&!!!!!d=0)", "e[[[[[[d]]]]]]((((((d=0))))))", "e[[[[[[d]]]]]]+[[[[[[d]]]]]](d=0)", "e1(!!!!(d=0)&!!!!!d=0)"
        };
        for (String text : six) {
            due(text, law(new LandingTree(), text), 1);
        }
        Object[][] seven = {
            {"e1(((((((d=0)))))))", 8}, {"e1(!!!!!!d=0)", 8}, {"e1([[[[[[d]]]]]]=0)", 8}, {"e1(d=[[[[[[d]]]]]])", 10},
            {"e1(!!!!!(d=0))", 8}, {"e1(!!!!![d]=0)", 8}, {"e1(!!!!!d=[d])", 10}, {"e1((((((!d=0))))))", 8},
            {"e1(((((([d]=0))))))", 8}, {"e1((((((d=[d]))))))", 10}, {"e[[[[[[[d]]]]]]](d=0)", 7}, {"e1((!(![d]+[[d]]=0)))", 12},
            {"e1(d=0&!!!!!(d=0))", 12}, {"e1(((((d=0)&!!!d=0", 14}, {"e1(((((!d=0&!!", 13}, {"e1((((((", 0}, {"e1(((((((", 8}
        };
        for (Object[] text : seven) {
            int at = (Integer) text[1];
            due((String) text[0], law(new LandingTree(), (String) text[0]), at == 0 ? -1008 : -5000 - at);
        }
    }

    private static void theFirstFromTheLeft() {
        sentence("FAULTS, the first from the left");
        LandingTree tree = new LandingTree();
        due("1 ahead of 2", law(tree, "e1(d=x&123456=0)"), -1005);
        due("2 ahead of 1", law(tree, "e123456x"), -2006);
        due("2 ahead of 5", law(tree, "e1(123456=0&(((((((d"), -2008);
        due("5 ahead of 2", law(tree, "e1(((((((123456"), -5008);
        due("5 ahead of 1", law(tree, "e1(((((((x"), -5008);
        due("1 ahead of 5", law(tree, "e1((((((x((("), -1008);
        due("in the second CLAUSE", law(tree, "e1(d=0);h(d=0);x"), -1009);
        sentence("a FAULT: -1000 times its number, less its place (the one before stays)");
        law(tree, "e4(1=1);e5(1=1)");
        tree.plant(0, 24, 20, 9);
        due("a FAULT", law(tree, "e5(1=1);e6(1=1);e7(1=1)x"), -1023);
        due("CLAUSES", tree.count(4), 2);
        tree.seed(0);
        tree.days(1);
        due("what they say", tree.plantIs(0, 1), 16);
        rule(tree, 1, "g4(1=1)");
        due("a FAULT", rule(tree, 1, "g5(1=1);g6(1=1);"), -1016);
        due("CLAUSES", tree.count(11), 1);
        tree.person(2, 0, 1);
        due("what it says", tree.gives(2, 0), 4);
        for (int i = 0; i < 120; i++) {
            due("one told behind another", rule(tree, 1, "g" + i % 9 + "+0*1(n=1&l=0|f>0)"), 1);
            due("what it says", tree.gives(2, 0), i % 9);
        }
        due("in place of the one before", rule(tree, 1, "g6(1=1)"), 1);
        due("what it says", tree.gives(2, 0), 6);
    }
}

/** ROTAS, and what else is told by the tape or of PEOPLE alone (Terms 3): each boundary that is named, by itself. */
public final class TapeBoundsTest extends Calls {
    private static final String COMERS = "abcdefgh.";

    public static void main(String[] args) {
        rotaBytes();
        rotaWeeks();
        rotaDays();
        rotaEnds();
        rotaSigns();
        theThirteenthWeek();
        moreThanSeven();
        personNotTold();
        rotaGoesBy();
        rotaAsksThen();
        rotaAsked();
        rotaRefused();
        aloneRows();
        aloneTenths();
        aloneAsked();
        whoDidSets();
        whoDidFirst();
        whoMust();
        whoDidAsked();
        cans();
        cansAsked();
        comes();
        comesAsked();
        theOne();
        parts();
        checks();
        checksAsked();
        end();
    }

    /** PLANT 0 of 24 CUPS, 12 WET, and all PEOPLE but h. */
    private static LandingTree seven() {
        LandingTree tree = landing("e1(1=1)", "g1(1=1)", 5, 1);
        tree.plant(0, 24, 12, 9);
        for (int p = 0; p < 7; p++) {
            tree.person(p, 0, 0);
        }
        return tree;
    }

    private static void fault(LandingTree tree, String text, int due) {
        due(text, rota(tree, 0, text, 0), due);
        due(text + ": empty then", tree.count(5), 0);
    }

    private static void rotaBytes() {
        sentence("A ROTA: a TEXT of at most 90 bytes");
        LandingTree tree = seven();
        String week = "abcdefg";
        String most = times(11, week, "/") + "/2.";
        due("as long as told", most.length(), 90);
        fault(tree, most, -1090);
        fault(tree, times(10, week, "/") + "/3a2b2.", 77);
        fault(tree, times(10, week, "/") + "/3a2b2./7", -1088);
        fault(tree, times(9, week, "/") + "/2a5./3a4b/7c", 84);
        due("91", rota(tree, 0, times(12, week, "/").substring(0, 91), 0), -1);
        due("the tape stays", tree.count(5), 100);
        due("90 of it", tree.rota(0, 90, 0), -1090);
    }

    private static void rotaWeeks() {
        sentence("WEEKS (12 at most) with a / between two");
        LandingTree tree = seven();
        for (int weeks = 1; weeks <= 12; weeks++) {
            fault(tree, times(weeks, "7.", "/"), 7 * weeks);
        }
        fault(tree, times(13, "7.", "/"), -4036);
        fault(tree, "7./", -1003);
        fault(tree, "/7.", -1000);
        fault(tree, "7.//7.", -1003);
        fault(tree, "7.;7.", -1002);
    }

    private static void rotaDays() {
        sentence("letters for PEOPLE (a to h) or a dot, 46 (nobody), perhaps with a digit 2 to 7 ahead; 7 DAYS in each");
        LandingTree tree = seven();
        tree.person(7, 0, 0);
        fault(tree, "abcdefg", 7);
        fault(tree, "hhhhhh.", 7);
        fault(tree, "7h", 7);
        fault(tree, "6ab", 7);
        fault(tree, "a6b", 7);
        fault(tree, "2a2b2c.", 7);
        fault(tree, "5a2.", 7);
        fault(tree, "4a3.", 7);
        fault(tree, "i", -1000);
        fault(tree, "A", -1000);
        fault(tree, "`", -1000);
        fault(tree, "-", -1000);
        fault(tree, "1a", -1000);
        fault(tree, "0a", -1000);
        fault(tree, "8a", -1000);
        fault(tree, "9a", -1000);
        fault(tree, "22a", -1001);
        fault(tree, "2", -1001);
        fault(tree, " 7a", -1000);
        fault(tree, "7 a", -1001);
    }

    private static void rotaEnds() {
        sentence("1 what can't stand there (the end, too; a WEEK's end ahead of its 7th DAY)");
        LandingTree tree = seven();
        String text = "2a3bc./7d/ab5./7.";
        for (int n = 1; n <= text.length(); n++) {
            String some = text.substring(0, n);
            fault(tree, some, n == 6 ? 7 : n == 9 ? 14 : n == 14 ? 21 : n == 17 ? 28 : -1000 - n);
        }
        for (int days = 0; days < 7; days++) {
            String some = "7./" + times(days, "a", "");
            fault(tree, some, -1000 - 3 - days);
            fault(tree, some + "/7.", -1000 - 3 - days);
        }
    }

    private static void rotaSigns() {
        sentence("FAULTS: 1 what can't stand there (the end, too; a WEEK's end ahead of its 7th DAY); 4 a 13th WEEK");
        String[][] places = {{"", "234567" + COMERS}, {"a", "23456" + COMERS}, {"2", COMERS}, {"2a", "2345" + COMERS},
            {"7.", "/"}, {"7./", "234567" + COMERS}, {"6.", COMERS}, {"7./6.", COMERS}};
        LandingTree tree = seven();
        tree.person(7, 0, 0);
        for (String[] place : places) {
            int n = place[0].length();
            for (int sign = 0; sign < 256; sign++) {
                feed(tree, (place[0] + (char) sign).chars().toArray());
                int answer = tree.rota(0, n + 1, 0);
                boolean isDay = "234567".indexOf((char) sign) >= 0 || COMERS.indexOf((char) sign) >= 0;
                boolean tooMany = isDay && place[1].indexOf((char) sign) < 0 && !place[0].equals("2");
                if (place[1].indexOf((char) sign) >= 0) {
                    due(place[0] + " and sign " + sign, answer > 0 || answer == -1000 - (n + 1), true);
                } else {
                    due(place[0] + " and sign " + sign, answer, (tooMany ? -6000 : -1000) - n);
                }
            }
        }
    }

    private static void theThirteenthWeek() {
        sentence("4 a 13th WEEK, at its first byte (if that can stand there)");
        LandingTree tree = seven();
        String twelve = times(12, "7.", "/");
        for (int sign = 0; sign < 256; sign++) {
            boolean can = "234567".indexOf((char) sign) >= 0 || COMERS.indexOf((char) sign) >= 0;
            feed(tree, (twelve + "/" + (char) sign + "a").chars().toArray());
            due("sign " + sign, tree.rota(0, 38, 0), can ? -4036 : -1036);
        }
        fault(tree, twelve + "/", -1036);
        fault(tree, twelve + "/7", -4036);
        fault(tree, twelve + "/h", -4036);
        fault(tree, twelve + "/2x", -4036);
        fault(tree, twelve + "//", -1036);
        fault(tree, twelve + "a", -6035);
        fault(tree, twelve, 84);
    }

    private static void moreThanSeven() {
        sentence("6 more than 7 in a WEEK, at the letter, the dot, or the digit (asked ahead of what follows it) that is too many");
        LandingTree tree = seven();
        fault(tree, "7aa", -6002);
        fault(tree, "7a.", -6002);
        fault(tree, "7a2a", -6002);
        fault(tree, "aaaaaaaa", -6007);
        fault(tree, "aaaaaaa.", -6007);
        for (int days = 1; days < 7; days++) {
            String some = times(days, "a", "");
            for (int digit = 2; digit <= 7; digit++) {
                int sum = days + digit;
                fault(tree, some + digit, sum > 7 ? -6000 - days : -1000 - days - 1);
                fault(tree, some + digit + "x", sum > 7 ? -6000 - days : -1000 - days - 1);
                fault(tree, some + digit + ".", sum > 7 ? -6000 - days : sum == 7 ? 7 : -1000 - days - 2);
            }
        }
        fault(tree, "7./6.2", -6005);
        fault(tree, "7./6.2x", -6005);
        fault(tree, "7a1", -1002);
        fault(tree, "7a8", -1002);
        fault(tree, "7ah", -6002);
    }

    private static void personNotTold() {
        sentence("7 a PERSON that is not told, at its letter");
        LandingTree tree = new LandingTree();
        tree.plant(0, 24, 12, 9);
        for (int p = 0; p < 8; p++) {
            String letter = "" + (char) ('a' + p);
            fault(tree, "." + letter + "5.", -7001);
            fault(tree, "7" + letter, -7001);
            fault(tree, "7./5.2" + letter, -7006);
            fault(tree, letter, -7000);
            tree.person(p, 0, 0);
            fault(tree, "7" + letter, 7);
        }
    }

    private static void rotaGoesBy() {
        sentence("By it, just who is told comes each DAY (no DRAW for coming; DRAWS for the sun by X as they will come, RULES, CARD, "
            + "LOOKS as in a DAY), on a PLANT (others aside)");
        // 2 7 6 5 2 9 6: sunny on the first and the fifth DAY
        LandingTree tree = seven();
        law(tree, "h1(1=1)");
        rule(tree, 0, "g0(1=1)");
        due("two sunny DAYS", rota(tree, 0, "7.", 2), 10);
        due("no DRAW for coming", rota(tree, 0, "abcdefg", 2), 10);
        tree.plant(1, 24, 12, 9);
        due("none for others", rota(tree, 1, "abcdefg", 2), 10);
        tree.seed(12);
        due("by X as it is: 1 4 1 0 1 4 5", rota(tree, 0, "7a", 2), 6);
        due("X stays", tree.count(6), 12);
        due("THE DAY stays", tree.count(0), 0);
        law(tree, "e1(1=1)");
        rule(tree, 0, "g1(1=1)");
        for (int days = 1; days < 7; days++) {
            due(days + " DAYS of a", rota(tree, 0, times(days, "a", "") + times(7 - days, ".", ""), 2), 5 + days);
        }
        due("whoever it is, 10 tenths or none", rota(tree, 0, "a2b4c", 2), 12);
        due("84 DAYS", rota(tree, 0, times(12, "7a", "/"), 2), 12);
        due("PLANT 0 stays", tree.plantIs(0, 1) + tree.plantIs(1, 1), 24);
        due("nobody has given", tree.share(-1, 0), -2);
    }

    private static void rotaAsksThen() {
        sentence("RULES, CARD, LOOKS as in a DAY");
        LandingTree tree = seven();
        tree.card(0, true);
        due("a", rule(tree, 0, "g3(a=99|a=4)") * rota(tree, 0, "7a", 2), 12 + 6 - 7);
        due("the CARD stays", tree.plantIs(0, 6), -3);
        due("q", rule(tree, 0, "g3(q<6)") * rota(tree, 0, "7a", 2), 12 + 6 - 7);
        due("q of each", rule(tree, 0, "g3(q<3)") * rota(tree, 0, "3a4b", 2), 12 + 6 - 7);
        due("d, w", rule(tree, 0, "g3(d=2|w=6)") * rota(tree, 0, "7a", 2), 12 + 6 - 7);
        due("p, t", rule(tree, 0, "g3(p=1&t=0)") * rota(tree, 0, "5ab.", 2), 12 + 3 - 7);
        due("s", rule(tree, 0, "g3(s<12)") * rota(tree, 0, "7a/7.", 2), 0);
        due("s is 11 on DAY 7", rule(tree, 0, "g3(s=11)") * rota(tree, 0, "7a/2a5.", 2), 12 + 3 - 14);
        due("above the POT it runs over", rule(tree, 0, "g9(1=1)") * rota(tree, 0, "7a", 2), 23);
        law(tree, "e1(p=0&t=0&q=0)");
        due("nobody is asked in e", rota(tree, 0, "7b", 2), 23);
    }

    private static void rotaAsked() {
        sentence("what 0 DAYS of it (7 for each WEEK), 1 the first DAY behind which it is dead (-2: it lives), 2 WET in the end (of "
            + "one that is dead: as it was then), 10 + p DAYS of PERSON p");
        LandingTree tree = seven();
        for (int wet = 1; wet <= 8; wet++) {
            tree.plant(0, 24, wet, 1);
            due(wet + " WET", rota(tree, 0, "7.", 1), wet < 8 ? wet - 1 : -2);
            due(wet + " WET in the end", rota(tree, 0, "7.", 2), Math.max(0, wet - 7));
            due("DAYS all the same", rota(tree, 0, "7.", 0), 7);
        }
        tree.plant(0, 8, 8, 1);
        law(tree, "e0(1=1)");
        due("drowns on the first", rota(tree, 0, "7./7.", 1), 0);
        due("as it was then", rota(tree, 0, "7./7.", 2), 8);
        law(tree, "e0(d<3);e8(1=1)");
        due("none gives to a dead one", rota(tree, 0, "7a/7a", 2), 8);
        tree.plant(0, 24, 0, 9);
        law(tree, "e9(1=1)");
        rule(tree, 0, "g0(1=1)");
        due("nine DRY DAYS: the first DAY of all is 0", rota(tree, 0, "7a/7a", 1), 8);
        due("seven are not enough", rota(tree, 0, "7a", 1), -2);
        String text = "3a2b2./c6./7g";
        int[] days = {3, 2, 1, 0, 0, 0, 7, 0};
        for (int p = 0; p < 8; p++) {
            due("of PERSON " + p, rota(tree, 0, text, 10 + p), days[p]);
        }
        due("84", rota(tree, 0, times(12, "7b", "/"), 11), 84);
        due("in a dead one's DAYS, too", rota(tree, 0, "7./7a", 10), 7);
    }

    private static void rotaRefused() {
        sentence("A ROTA by the first n bytes of the tape (1 to 90; empty then) for a told PLANT that is not dead");
        due("one byte", rota(seven(), 0, "a", 0), -1001);
        due("90 bytes", rota(seven(), 0, times(10, "abcdefg", "/") + "/" + times(10, "a", ""), 0), -6087);
        sentence("NONE: no such ones, it has not so many (the tape stays), THE DAY is above 9915.");
        LandingTree tree = seven();
        tree.plant(2, 4, 4, 1);
        law(tree, "e0(1=1)");
        tree.days(1);
        feed(tree, "7a");
        for (int l : new int[] {-1, 1, 2, 3, 4, Integer.MAX_VALUE}) {
            due("PLANT " + l, tree.rota(l, 2, 0), -1);
        }
        for (int n : new int[] {-1, 0, 21, 91, Integer.MAX_VALUE, Integer.MIN_VALUE}) {
            due("n " + n, tree.rota(0, n, 0), -1);
        }
        for (int what : new int[] {-1, 3, 4, 9, 18, 19, Integer.MAX_VALUE, Integer.MIN_VALUE}) {
            due("what " + what, tree.rota(0, 2, what), -1);
        }
        due("the tape stays", tree.count(5), 20);
        due("it is as it was", tree.rota(0, 2, 17), 0);
        due("empty then", tree.count(5), 0);
        due("it has not so many", tree.rota(0, 1, 0), -1);
        feed(tree, "7a/7a/7a/7a/7a/7a/7");
        feed(tree, "x");
        due("20 of 40: one behind the digit", tree.rota(0, 20, 0), -1019);
        feed(tree, "aaaaaaa/aaaaaaa/3a4.");
        due("all 20", tree.rota(0, 20, 0), 21);
        for (int i = 0; i < 165; i++) {
            tree.days(60);
        }
        tree.days(14);
        due("THE DAY", tree.count(0), 9915);
        law(tree, "e1(d=9998)");
        due("9915: 84 DAYS more are not above 9999", rota(tree, 0, times(12, "7.", "/"), 2), tree.plantIs(0, 1) - 1);
        tree.days(1);
        due("9916", rota(tree, 0, "7.", 0), -1);
        due("9916", tree.rota(0, 2, 2), -1);
        due("ahead of a FAULT", rota(tree, 0, "x", 0), -1);
    }

    private static void aloneRows() {
        sentence("ALONE: n PEOPLE (2 to 6; p 0 to n - 1, told or not) may each water or not at c (asked of each; of no PLANT, on THE "
            + "DAY), if one at least does each has b (asked likewise): rows (bits of who waters) at which nobody gains more alone");
        LandingTree tree = new LandingTree();
        for (int n = 2; n <= 6; n++) {
            law(tree, "c1(1=1);b2(1=1)");
            due("just one of " + n, tree.alone(n, 0), n);
            due("PERSON 0", tree.alone(n, 1), 1);
            law(tree, "c1(1=1);b1(1=1)");
            due("one or none of " + n, tree.alone(n, 0), n + 1);
            due("none", tree.alone(n, 1), 0);
            law(tree, "c2(1=1);b1(1=1)");
            due("none of " + n, tree.alone(n, 0), 1);
            law(tree, "b1(1=1)");
            due("one at least: c is 0", tree.alone(n, 0), (1 << n) - 1);
            due("PERSON 0 alone", tree.alone(n, 1), 1);
            law(tree, "c1(p=" + (n - 1) + ");c2(1=1);b1(1=1)");
            due("the last one alone, or none", tree.alone(n, 0), 2);
            law(tree, "c0(p=" + (n - 1) + ");c2(1=1);b1(1=1)");
            due("the last one alone", tree.alone(n, 1), 1 << (n - 1));
            law(tree, "c0(p=" + n + ");c2(1=1);b1(1=1)");
            due("not one that is not there", tree.alone(n, 0), 1);
        }
        due("none by no LAW: all rows", new LandingTree().alone(3, 0), 8);
        tree.days(3);
        law(tree, "c1(d=3&w=3);b2(d=3)");
        due("on THE DAY", tree.alone(4, 0), 4);
        tree.person(5, 7, 2);
        law(tree, "c1+t+l+o+f(1=1);bn+1(1=1)");
        due("told or not", tree.alone(4, 0), 4);
    }

    private static void aloneTenths() {
        sentence("the greatest tenths (0 to 10) such that, if all others water by these, each gains no less by watering than by not, "
            + "on the mean");
        LandingTree tree = new LandingTree();
        int[] due = {10, 9, 8, 7, 6, 5, 4, 3, 2, 1, 0, -2};
        for (int c = 0; c <= 11; c++) {
            law(tree, "c" + c + "(1=1);b10(1=1)");
            due("two, c " + c + " of 10", tree.alone(2, 2), due[c]);
        }
        law(tree, "c81(1=1);b100(1=1)");
        due("three: just 9 of 10 twice", tree.alone(3, 2), 1);
        law(tree, "c82(1=1);b100(1=1)");
        due("three: not quite", tree.alone(3, 2), 0);
        law(tree, "c32(1=1);b1024-25(1=1)");
        due("six: 2 of 10 five times", tree.alone(6, 2), 4);
        law(tree, "c1(p=0);c5(1=1);b10(1=1)");
        due("each of two", tree.alone(2, 2), 5);
        law(tree, "c5(p=0);c1(1=1);b10(1=1)");
        due("each of two", tree.alone(2, 2), 5);
        law(tree, "c11(p=3);b10(1=1)");
        due("of three PEOPLE", tree.alone(3, 2), 10);
        due("of four: by none", tree.alone(4, 2), -2);
        law(tree, "c9(1=1)");
        due("it is worth nothing: by none", tree.alone(2, 2), -2);
        due("it is worth nothing, costs nothing", new LandingTree().alone(6, 2), 10);
    }

    private static void aloneAsked() {
        sentence("ALONE by n PEOPLE, what 0 how many rows, 1 the lowest (-2: none), 2 the tenths (-2: by none); NONE: no such n, no "
            + "such what.");
        LandingTree tree = new LandingTree();
        for (int n : new int[] {-1, 0, 1, 7, 8, 31, 32, Integer.MAX_VALUE, Integer.MIN_VALUE}) {
            due("n " + n, tree.alone(n, 0), -1);
            due("n " + n, tree.alone(n, 2), -1);
        }
        for (int what : new int[] {-1, 3, 10, Integer.MAX_VALUE, Integer.MIN_VALUE}) {
            due("what " + what, tree.alone(2, what), -1);
        }
        due("2", tree.alone(2, 0), 4);
        due("6", tree.alone(6, 0), 64);
    }

    /** WHO DID IT by these numbers of WET. */
    private static long who(LandingTree tree, int people, int cups, int goes, int what, int... wet) {
        feed(tree, wet);
        return tree.whoDid(wet.length - 1, people, cups, goes, what);
    }

    private static void whoDidSets() {
        sentence("each DAY some of told PEOPLE (bits, 5 at most) gave told CUPS each (1 to 9), POTS and sun aside, and told CUPS went "
            + "(0 at least): rows of sets that fit");
        LandingTree tree = new LandingTree();
        for (int many = 1; many <= 5; many++) {
            int people = (1 << many) - 1;
            for (int came = 0; came <= many; came++) {
                int sets = 0;
                for (int set = 0; set <= people; set++) {
                    sets += Integer.bitCount(set) == came ? 1 : 0;
                }
                due(came + " of " + many, who(tree, people, 3, 2, 0, 5, 3 + 3 * came), sets);
                due(came + " of others", who(tree, people << 3, 3, 2, 0, 5, 3 + 3 * came), sets);
            }
            due("more than all", who(tree, people, 3, 2, 0, 5, 3 + 3 * many + 3), 0);
            due("between", who(tree, people, 3, 2, 0, 5, 4), 0);
            due("0 at least: any", who(tree, people, 1, 9, 0, 4, 0), 1 << many);
        }
        due("0 at least: one at most", who(tree, 3, 4, 8, 0, 4, 0), 3);
        due("just 0, or below", who(tree, 3, 4, 9, 0, 5, 0), 3);
        due("above 0", who(tree, 3, 4, 9, 0, 6, 1), 2);
        due("none went", who(tree, 1, 1, 0, 0, 6, 7), 1);
        due("POTS aside", who(tree, 31, 9, 0, 0, 200, 245), 1);
        due("a byte is one of 0 to 255", who(tree, 1, 9, 0, 0, 250, 3), 0);
        due("6 DAYS", who(tree, 3, 1, 1, 0, 5, 5, 5, 5, 5, 5, 5), 64);
        due("all sets of 6 DAYS", who(tree, 31 << 3, 1, 9, 0, 1, 0, 0, 0, 0, 0, 0), 1L << 30);
    }

    private static void whoDidFirst() {
        sentence("the first DAY (0 on) for which no set fits (-2: none)");
        LandingTree tree = new LandingTree();
        int[] wet = {5, 5, 5, 5, 5, 5, 5};
        due("none", who(tree, 1, 1, 1, 1, wet), -2);
        for (int day = 0; day < 6; day++) {
            int[] not = wet.clone();
            not[day + 1] = 7;
            due("DAY " + day, who(tree, 1, 1, 1, 1, not), day);
            due("no rows", who(tree, 1, 1, 1, 0, not), 0);
        }
        due("the first of two", who(tree, 1, 1, 1, 1, 5, 5, 9, 9, 5), 1);
        due("the last of two alone", who(tree, 1, 1, 1, 1, 5, 4, 9), 1);
    }

    private static void whoMust() {
        sentence("the PEOPLE that gave at least once in all of these rows (bits; without rows 0)");
        LandingTree tree = new LandingTree();
        due("both", who(tree, 3, 2, 1, 2, 5, 8), 3);
        due("one of two: none must", who(tree, 3, 2, 1, 2, 5, 6), 0);
        due("one of two on each of two DAYS: none must", who(tree, 3, 2, 1, 2, 5, 6, 7), 0);
        due("nobody", who(tree, 3, 2, 1, 2, 5, 4), 0);
        due("both on the first DAY of three", who(tree, 0x82, 2, 1, 2, 5, 8, 7, 8), 0x82);
        due("both on the last DAY", who(tree, 0x82, 2, 1, 2, 5, 4, 3, 6), 0x82);
        due("without rows 0", who(tree, 3, 2, 1, 2, 5, 8, 8), 0);
        due("without rows 0", who(tree, 3, 2, 1, 2, 5, 5, 8), 0);
        due("one alone is told", who(tree, 128, 2, 1, 2, 5, 6), 128);
        due("any: none must", who(tree, 1, 1, 9, 2, 2, 0), 0);
    }

    private static void whoDidAsked() {
        sentence("WHO DID IT by the first n + 1 bytes of the tape (WET ahead, then at the end of each DAY; empty then)");
        due("the first is ahead of it", who(new LandingTree(), 1, 9, 0, 0, 0, 9), 1);
        due("not the other way", who(new LandingTree(), 1, 9, 0, 0, 9, 0), 0);
        sentence("by PEOPLE (bits below 256, 1 to 5 of them), CUPS each (1 to 9), CUPS that go (0 to 9), what 0 how many rows");
        LandingTree tree = new LandingTree();
        feed(tree, 3, 3, 3, 3, 3, 3, 3, 3);
        for (int n : new int[] {-1, 0, 7, 8, Integer.MAX_VALUE, Integer.MIN_VALUE}) {
            due("n " + n, tree.whoDid(n, 1, 1, 1, 0), -1);
        }
        for (int people : new int[] {-1, 0, 63, 255, 256, 257, 252, 512, Integer.MIN_VALUE}) {
            due("PEOPLE " + people, tree.whoDid(1, people, 1, 1, 0), -1);
        }
        for (int cups : new int[] {-1, 0, 10, Integer.MAX_VALUE}) {
            due("CUPS " + cups, tree.whoDid(1, 1, cups, 1, 0), -1);
        }
        for (int goes : new int[] {-1, 10, Integer.MAX_VALUE}) {
            due("CUPS that go " + goes, tree.whoDid(1, 1, 1, goes, 0), -1);
        }
        for (int what : new int[] {-1, 3, Integer.MAX_VALUE}) {
            due("what " + what, tree.whoDid(1, 1, 1, 1, what), -1);
        }
        due("the tape stays", tree.count(5), 20);
        sentence("1 the first DAY for which none fits (-2: none), 2 who must have given; NONE: no such ones, it has not so many (the "
            + "tape stays).");
        due("six DAYS", tree.whoDid(6, 1, 1, 1, 0), 1);
        due("empty then", tree.count(5), 0);
        due("it has not so many", tree.whoDid(1, 1, 1, 1, 0), -1);
        due("five PEOPLE", who(tree, 248, 1, 1, 0, 3, 3), 5);
        due("9 CUPS", who(tree, 128, 9, 0, 0, 3, 12), 1);
        due("9 that go", who(tree, 1, 9, 9, 0, 3, 3), 1);
        feed(tree, 3);
        due("n + 1 bytes, of 20", tree.whoDid(6, 1, 1, 1, 0), 0);
    }

    private static long can(LandingTree tree, int cups, int need, int what, int... tenths) {
        feed(tree, tenths);
        return tree.can(tenths.length, cups, need, what);
    }

    private static void cans() {
        sentence("A CAN that is placed full, and empty when one has watered: m PEOPLE come by tenths; each that comes gives told CUPS, "
            + "with the can only the first that comes: CUPS above a told need, on the mean: without the can less with it.");
        LandingTree tree = new LandingTree();
        for (int m = 1; m <= 6; m++) {
            int[] all = new int[m];
            java.util.Arrays.fill(all, 10);
            for (int need = 0; need <= 60; need++) {
                due(m + " who come, need " + need, can(tree, 9, need, 0, all), Math.max(0, 9 * m - need) - Math.max(0, 9 - need));
            }
        }
        due("one alone gives as much", can(tree, 5, 2, 0, 7), 0);
        due("of one", can(tree, 5, 2, 1, 7), 1);
        due("two by 5: one of four twice", can(tree, 4, 0, 0, 5, 5), 1);
        due("of one", can(tree, 4, 0, 1, 5, 5), 1);
        due("two by 1: 4 of 100", can(tree, 4, 4, 0, 1, 1), 1);
        due("of 25", can(tree, 4, 4, 1, 1, 1), 25);
        due("need above what one gives", can(tree, 4, 6, 0, 1, 1), 1);
        due("of 50", can(tree, 4, 6, 1, 1, 1), 50);
        due("just the need", can(tree, 4, 8, 0, 1, 1), 0);
        due("of one", can(tree, 4, 8, 1, 1, 1), 1);
        due("three by 5: 3 of 8 two, 1 of 8 three", can(tree, 4, 0, 0, 5, 5, 5), 5);
        due("of two", can(tree, 4, 0, 1, 5, 5, 5), 2);
        due("nobody comes", can(tree, 4, 0, 0, 0, 0, 0), 0);
        due("of one", can(tree, 4, 0, 1, 0, 0, 0), 1);
        due("six by 1: just one and a millionth", can(tree, 1, 5, 0, 1, 1, 1, 1, 1, 1), 1);
        due("of a million", can(tree, 1, 5, 1, 1, 1, 1, 1, 1, 1), 1000000);
    }

    private static void cansAsked() {
        sentence("A CAN by the first m bytes of the tape (tenths of each, 0 to 10; m 1 to 6; empty then)");
        due("0 tenths", can(new LandingTree(), 9, 0, 0, 0, 0, 0, 0, 0, 0), 0);
        due("10 tenths", can(new LandingTree(), 9, 0, 0, 10, 10, 10, 10, 10, 10), 45);
        due("11 tenths", can(new LandingTree(), 9, 0, 0, 11), -2);
        sentence("CUPS (1 to 9), need (0 to 60), what 0 above, 1 below the line, without a common divisor; -2: a byte above 10; -1 also: "
            + "no such ones, it has not so many (the tape stays).");
        LandingTree tree = new LandingTree();
        feed(tree, 10, 10, 11);
        for (int m : new int[] {-1, 0, 7, 21, Integer.MAX_VALUE, Integer.MIN_VALUE}) {
            due("m " + m, tree.can(m, 1, 0, 0), -1);
        }
        for (int cups : new int[] {-1, 0, 10, Integer.MAX_VALUE}) {
            due("CUPS " + cups, tree.can(1, cups, 0, 0), -1);
        }
        for (int need : new int[] {-1, 61, Integer.MIN_VALUE}) {
            due("need " + need, tree.can(1, 1, need, 0), -1);
        }
        for (int what : new int[] {-1, 2, Integer.MAX_VALUE}) {
            due("what " + what, tree.can(1, 1, 0, what), -1);
        }
        due("the tape stays", tree.count(5), 20);
        due("not the third", tree.can(2, 1, 0, 0), 1);
        due("empty then", tree.count(5), 0);
        due("it has not so many", tree.can(1, 1, 0, 0), -1);
        for (int at = 0; at < 6; at++) {
            int[] tenths = {10, 10, 10, 10, 10, 10};
            tenths[at] = at == 0 ? 255 : 11;
            due("a byte above 10 at " + at, can(tree, 9, 60, at % 2, tenths), -2);
            due("empty then", tree.count(5), 0);
        }
        feed(tree, 11);
        due("NONE ahead of -2", tree.can(1, 0, 0, 0), -1);
        due("the tape stays", tree.count(5), 20);
        due("-2 whatever is asked", tree.can(1, 9, 60, 1), -2);
        due("1 CUP", can(tree, 1, 0, 0, 10, 10), 1);
        due("9 CUPS", can(tree, 9, 0, 0, 10, 10), 9);
    }

    private static long come(LandingTree tree, int many, int what, int... tenths) {
        feed(tree, tenths);
        return tree.comes(tenths.length, many, what);
    }

    private static void comes() {
        sentence("WHO COMES: m PEOPLE by tenths: ODDS that just so many come.");
        LandingTree tree = new LandingTree();
        int[] all = new int[12];
        for (int m = 1; m <= 12; m++) {
            java.util.Arrays.fill(all, 0, m, 10);
            for (int many = 0; many <= 12; many++) {
                due(many + " of " + m + " that all come", come(tree, many, 0, java.util.Arrays.copyOf(all, m)), many == m ? 1 : 0);
                due("of one", come(tree, many, 1, java.util.Arrays.copyOf(all, m)), 1);
            }
        }
        int[] half = {1, 12, 66, 220, 495, 792, 924};
        int[] fives = {5, 5, 5, 5, 5, 5, 5, 5, 5, 5, 5, 5};
        for (int many = 0; many <= 12; many++) {
            int way = half[Math.min(many, 12 - many)];
            int common = Math.min(Integer.lowestOneBit(way), 4096);
            due(many + " of twelve by 5", come(tree, many, 0, fives), way / common);
            due(many + " of twelve by 5, below", come(tree, many, 1, fives), 4096 / common);
        }
        due("without a common divisor", come(tree, 1, 0, 4), 2);
        due("without a common divisor", come(tree, 1, 1, 4), 5);
        due("none by 0", come(tree, 0, 0, 0), 1);
        due("all of twelve by 1", come(tree, 12, 1, 1, 1, 1, 1, 1, 1, 1, 1, 1, 1, 1, 1), 1000000000000L);
        due("all of twelve by 9", come(tree, 12, 0, 9, 9, 9, 9, 9, 9, 9, 9, 9, 9, 9, 9), 282429536481L);
    }

    private static void comesAsked() {
        sentence("WHO COMES by the first m bytes of the tape (tenths, 0 to 10 each; m 1 to 12; empty then): so many (0 to 12), what 0 "
            + "above, 1 below the line, without a common divisor; -2: a byte above 10; -1 also: no such ones, it has not so many (the "
            + "tape stays).");
        LandingTree tree = new LandingTree();
        feed(tree, 10, 10, 11);
        for (int m : new int[] {-1, 0, 13, 21, Integer.MAX_VALUE, Integer.MIN_VALUE}) {
            due("m " + m, tree.comes(m, 1, 0), -1);
        }
        for (int many : new int[] {-1, 13, Integer.MAX_VALUE, Integer.MIN_VALUE}) {
            due("so many " + many, tree.comes(2, many, 0), -1);
        }
        for (int what : new int[] {-1, 2, Integer.MAX_VALUE}) {
            due("what " + what, tree.comes(2, 1, what), -1);
        }
        due("the tape stays", tree.count(5), 20);
        due("not the third", tree.comes(2, 2, 0), 1);
        due("empty then", tree.count(5), 0);
        due("it has not so many", tree.comes(1, 1, 0), -1);
        for (int at = 0; at < 12; at++) {
            int[] tenths = new int[12];
            tenths[at] = at == 0 ? 128 : 11;
            due("a byte above 10 at " + at, come(tree, 12, at % 2, tenths), -2);
            due("empty then", tree.count(5), 0);
        }
        feed(tree, 11);
        due("NONE ahead of -2", tree.comes(1, 13, 0), -1);
        due("the tape stays", tree.count(5), 20);
        due("-2 whatever is asked", tree.comes(1, 12, 1), -2);
    }

    private static void theOne() {
        sentence("THE ONE: who has given most CUPS so far (of like ones the lowest; nobody, if none has)");
        LandingTree tree = landing("e9(1=1)", "g0(1=1)", 5, 9);
        due("nobody is told", new LandingTree().share(-1, 0), -2);
        due("nobody has", tree.share(-1, 0), -2);
        tree.person(0, 10, 0);
        tree.person(3, 10, 1);
        tree.person(7, 10, 2);
        rule(tree, 1, "g1(d=1|d=3)");
        rule(tree, 2, "g1(d=0|d=2)");
        int[] due = {7, 3, 7, 3};
        for (int day = 0; day < 4; day++) {
            tree.days(1);
            due("behind DAY " + day, tree.share(-1, 0), due[day]);
        }
        tree.person(3, 10, 1);
        due("a new one has given none", tree.share(-1, 0), 7);
        sentence("THE ONE (p NONE, what 0; -2: nobody), else of told PERSON p what 0 above, 1 below the line, without a common divisor "
            + "(nothing given: 0, 1); NONE: no such ones.");
        for (int what : new int[] {-1, 1, 2, Integer.MAX_VALUE}) {
            due("what " + what, tree.share(-1, what), -1);
        }
        for (int p : new int[] {-2, 1, 2, 8, Integer.MAX_VALUE, Integer.MIN_VALUE}) {
            due("PERSON " + p, tree.share(p, 0), -1);
        }
        for (int what : new int[] {-1, 2, Integer.MIN_VALUE}) {
            due("what " + what, tree.share(7, what), -1);
        }
    }

    private static void parts() {
        sentence("what part of all a PERSON has given");
        LandingTree tree = landing("e9(1=1)", "g1(d=0)", 5, 9);
        tree.person(4, 10, 1);
        rule(tree, 1, "g3(d>0)");
        due("nothing", tree.share(0, 0), 0);
        due("of one", tree.share(0, 1), 1);
        tree.days(1);
        due("all of one CUP", tree.share(0, 0), 1);
        due("of one", tree.share(0, 1), 1);
        due("nothing of one CUP", tree.share(4, 0), 0);
        due("of one", tree.share(4, 1), 1);
        due("THE ONE by one CUP", tree.share(-1, 0), 0);
        tree.days(1);
        due("1 of 4", tree.share(0, 0) * 10 + tree.share(0, 1), 14);
        due("3 of 4", tree.share(4, 0) * 10 + tree.share(4, 1), 34);
        rule(tree, 0, "g2(1=1)");
        tree.days(1);
        due("3 of 9: 1 of 3", tree.share(0, 0) * 10 + tree.share(0, 1), 13);
        due("6 of 9: 2 of 3", tree.share(4, 0) * 10 + tree.share(4, 1), 23);
        tree.person(0, 0, 0);
        due("6 of 6", tree.share(4, 0) * 10 + tree.share(4, 1), 11);
        due("0 of 6", tree.share(0, 0) * 10 + tree.share(0, 1), 1);
    }

    /** WET 20 as told, then 19, 18, .. at the end of each of so many DAYS. */
    private static LandingTree looked(int days) {
        LandingTree tree = new LandingTree();
        law(tree, "e1(1=1)");
        tree.plant(1, 24, 20, 9);
        if (days > 0) {
            tree.days(days);
        }
        return tree;
    }

    private static int check(LandingTree tree, int l, int... numbers) {
        int[] bytes = new int[4 * numbers.length];
        for (int i = 0; i < bytes.length; i++) {
            bytes[i] = numbers[i / 4] >>> 24 - 8 * (i % 4) & 255;
        }
        feed(tree, bytes);
        return tree.check(l, numbers.length);
    }

    private static void checks() {
        sentence("CHECK of a PLANT: LOOKS, the oldest first (7 numbers): right, or the first number that is not so.");
        due("as told", check(looked(0), 1, 20, 20, 20, 20, 20, 20, 20), -1);
        due("one DAY", check(looked(1), 1, 20, 20, 20, 20, 20, 20, 19), -1);
        due("six DAYS", check(looked(6), 1, 20, 19, 18, 17, 16, 15, 14), -1);
        due("seven DAYS", check(looked(7), 1, 19, 18, 17, 16, 15, 14, 13), -1);
        due("eight DAYS", check(looked(8), 1, 18, 17, 16, 15, 14, 13, 12), -1);
        for (int at = 0; at < 7; at++) {
            for (int more : new int[] {1, -1, 256, 65536, 1 << 24, Integer.MIN_VALUE}) {
                int[] numbers = {18, 17, 16, 15, 14, 13, 12};
                numbers[at] += more;
                due("not so at " + at, check(looked(8), 1, numbers), at);
                numbers[6] += 7;
                due("the first of them", check(looked(8), 1, numbers), at);
            }
        }
    }

    private static void checksAsked() {
        sentence("CHECK of a told PLANT by the first n numbers of the tape (0 to 7; four bytes each; empty then): NONE: right; else the "
            + "place of the first number that is not so; -2: no such ones, it has not so many (the tape stays).");
        LandingTree tree = looked(8);
        due("five numbers on it", check(tree, 1, 18, 17, 16, 15, 14), -1);
        feed(tree, 0, 0, 0, 18);
        for (int l : new int[] {-1, 0, 2, 3, 4, Integer.MAX_VALUE}) {
            due("PLANT " + l, tree.check(l, 1), -2);
        }
        for (int n : new int[] {-1, 6, 7, 8, 1 << 30, Integer.MAX_VALUE, Integer.MIN_VALUE}) {
            due("n " + n, tree.check(1, n), -2);
        }
        due("the tape stays", tree.count(5), 20);
        due("one", tree.check(1, 1), -1);
        due("empty then", tree.count(5), 0);
        due("it has not so many", tree.check(1, 1), -2);
        due("none is right", tree.check(1, 0), -1);
        feed(tree, 0, 0, 0, 18);
        due("none of them", tree.check(1, 0), -1);
        due("empty then", tree.count(5), 0);
        feed(tree, new int[40]);
        due("8 numbers, though it has 10", tree.check(1, 8), -2);
        due("the tape stays", tree.count(5), 40);
        LandingTree dead = new LandingTree();
        dead.plant(3, 4, 4, 1);
        dead.days(1);
        due("a dead one", check(dead, 3, 4, 4, 4, 4, 4, 4, 4), -1);
    }
}

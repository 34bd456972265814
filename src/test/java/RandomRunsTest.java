import java.util.Random;

/** Runs of calls drawn at random, with fixed seeds: each answer must be the one of Model. */
public final class RandomRunsTest {
    private static final String LETTERS = "dwlofsyzptnaq";

    private final Random random;
    private final LandingTree tree = new LandingTree();
    private final Model model = new Model();
    private final StringBuilder told = new StringBuilder();
    private int calls;

    private RandomRunsTest(long seed) {
        random = new Random(seed);
    }

    public static void main(String[] args) {
        int runs = args.length > 0 ? Integer.parseInt(args[0]) : 600;
        int first = args.length > 1 ? Integer.parseInt(args[1]) : 0;
        long calls = 0;
        for (int seed = first; seed < first + runs; seed++) {
            RandomRunsTest run = new RandomRunsTest(seed);
            if (!run.run()) {
                System.out.println("seed " + seed + ":\n" + run.told);
                System.exit(1);
            }
            calls += run.calls;
        }
        System.out.println(runs + " runs, " + calls + " calls: all answers are the model's");
    }

    private boolean run() {
        int many = 50 + below(200);
        for (int i = 0; i < 12; i++) {
            if (!begin(i)) {
                return false;
            }
        }
        if (chance(2) && !untilLate()) {
            return false;
        }
        many += calls;
        while (calls < many) {
            if (!oneCall()) {
                return false;
            }
        }
        return wholeState();
    }

    /** Up to the last DAYS, behind which no ROTA is read and no DAY goes by. */
    private boolean untilLate() {
        int last = 9850 + below(160);
        for (int i = 0; i < 200 && model.now.day < Math.min(last, 9999); i++) {
            int n = Math.min(60, last - model.now.day);
            if (!same("days(" + n + ")", tree.days(n), model.days(n))) {
                return false;
            }
        }
        return plant() && plant() && plant();
    }

    private int below(int n) {
        return random.nextInt(n);
    }

    private boolean chance(int percent) {
        return below(100) < percent;
    }

    /** Mostly from least to most, now and then something outside. */
    private int some(int least, int most) {
        if (chance(97)) {
            return least + below(most - least + 1);
        }
        int[] odd = {least - 1, most + 1, -1, -2, 0, 1000, Integer.MIN_VALUE, Integer.MAX_VALUE};
        return odd[below(odd.length)];
    }

    private boolean same(String call, long got, long due) {
        calls++;
        told.append(call).append(" = ").append(got).append('\n');
        if (got != due) {
            told.append("  due is ").append(due).append('\n');
        }
        return got == due;
    }

    private static long asNumber(boolean is) {
        return is ? 1 : 0;
    }

    private boolean begin(int i) {
        if (i < 3) {
            return plant();
        }
        if (i < 7) {
            return person();
        }
        return i < 9 ? text("ehcb", NONE_RULE) : text("g", below(4));
    }

    private static final int NONE_RULE = -1;

    private boolean plant() {
        int pot = some(4, chance(50) ? 8 : 24);
        int l = some(0, 3);
        int wet = some(0, Math.max(0, Math.min(pot, 24)));
        int bears = some(chance(50) ? 1 : 3, chance(40) ? 3 : 9);
        return same("plant(" + l + ", " + pot + ", " + wet + ", " + bears + ")",
            asNumber(tree.plant(l, pot, wet, bears)), asNumber(model.plant(l, pot, wet, bears)));
    }

    private boolean person() {
        int p = some(0, 7);
        int tenths = some(0, 10);
        int rule = some(0, 3);
        return same("person(" + p + ", " + tenths + ", " + rule + ")",
            asNumber(tree.person(p, tenths, rule)), asNumber(model.person(p, tenths, rule)));
    }

    private boolean feed(byte[] bytes) {
        int[] n = new int[5];
        for (int i = 0; i < 20; i++) {
            n[i / 4] = n[i / 4] << 8 | (i < bytes.length ? bytes[i] & 255 : 'a');
        }
        return same("feed(" + n[0] + ", " + n[1] + ", " + n[2] + ", " + n[3] + ", " + n[4] + ")",
            tree.feed(n[0], n[1], n[2], n[3], n[4]), model.feed(n[0], n[1], n[2], n[3], n[4]));
    }

    private boolean feedAll(byte[] bytes) {
        for (int from = 0; from < bytes.length; from += 20) {
            int end = Math.min(bytes.length, from + 20);
            if (!feed(java.util.Arrays.copyOfRange(bytes, from, end))) {
                return false;
            }
        }
        return true;
    }

    private static byte[] bytes(String text) {
        byte[] all = new byte[text.length()];
        for (int i = 0; i < all.length; i++) {
            all[i] = (byte) text.charAt(i);
        }
        return all;
    }

    private String spoilt(String text, String signs) {
        StringBuilder some = new StringBuilder(text);
        for (int times = 1 + below(2); times > 0 && some.length() > 0; times--) {
            int at = below(some.length());
            char sign = chance(90) ? signs.charAt(below(signs.length())) : (char) below(256);
            if (chance(40)) {
                some.setCharAt(at, sign);
            } else if (chance(50)) {
                some.insert(at, sign);
            } else {
                some.deleteCharAt(at);
            }
        }
        return some.toString();
    }

    private boolean text(String kinds, int k) {
        StringBuilder some = new StringBuilder();
        int many = chance(3) ? 13 + below(4) : 1 + below(4);
        for (int i = 0; i < many; i++) {
            some.append(i == 0 ? "" : ";").append(kinds.charAt(below(kinds.length())));
            some.append(many > 6 ? "1(1=1" : sum(chance(60) ? 0 : 2) + "(" + condition(chance(70) ? 1 : 3)).append(")");
        }
        String text = chance(50) ? some.toString() : k == NONE_RULE ? plainLaw() : plainRule();
        if (chance(15)) {
            text = spoilt(text, LETTERS + "ehcbg()[]!&|+-*/%<>=;0123456789");
        }
        if (text.isEmpty() || text.length() > 200) {
            return true;
        }
        told.append("  ").append(text).append('\n');
        if (!feedAll(bytes(text))) {
            return false;
        }
        int n = chance(97) ? text.length() : some(1, 200);
        return k == NONE_RULE ? same("law(" + n + ")", tree.law(n), model.law(n))
            : same("rule(" + k + ", " + n + ")", tree.rule(k, n), model.rule(k, n));
    }

    /** So that there is enough to live on, and not too much. */
    private String plainLaw() {
        String[] when = {"(1=1)", "(" + condition(1) + ")", "(w<" + below(8) + ")", "(f>s-" + below(4) + ")"};
        return "e" + (1 + below(3)) + when[below(4)] + ";e" + below(3) + "(y<" + below(3) + "|z>0);h" + below(4)
            + when[below(4)] + ";c" + below(30) + "+p" + when[below(2)] + ";b" + below(60) + "*n" + when[below(2)];
    }

    private String plainRule() {
        String[] howMany = {"" + below(6), "[o-f]/" + below(4), "t/2", below(5) + "+p", "q%" + (2 + below(4))};
        String[] when = {"f<" + below(9), "s<" + below(9), "a>" + below(4), "q<" + below(30), condition(1)};
        return "g" + howMany[below(5)] + "(" + when[below(5)] + ");g" + howMany[below(5)] + "(" + when[below(5)] + ")";
    }

    /** Mostly a PLANT that lives. */
    private int living() {
        int l = some(0, 3);
        for (int i = 0; i < 6 && chance(90) && !model.alive(l); i++) {
            l = below(4);
        }
        return l;
    }

    private String sum(int depth) {
        StringBuilder some = new StringBuilder(term(depth));
        while (chance(depth > 0 ? 35 : 10)) {
            some.append(chance(50) ? '+' : '-').append(term(depth));
        }
        return some.toString();
    }

    private String term(int depth) {
        StringBuilder some = new StringBuilder(factor(depth));
        while (chance(depth > 0 ? 30 : 5)) {
            some.append("*/%".charAt(below(3))).append(factor(depth));
        }
        return some.toString();
    }

    private String factor(int depth) {
        if (depth > 0 && chance(30)) {
            return "[" + sum(depth - 1) + "]";
        }
        if (chance(45)) {
            return "" + LETTERS.charAt(below(LETTERS.length()));
        }
        return "" + (chance(90) ? below(10) : below(chance(50) ? 1000 : 100000));
    }

    private String condition(int depth) {
        StringBuilder some = new StringBuilder(piece(depth));
        while (chance(25)) {
            some.append(chance(50) ? '&' : '|').append(piece(depth));
        }
        return some.toString();
    }

    private String piece(int depth) {
        if (depth > 0 && chance(20)) {
            return "!" + piece(depth - 1);
        }
        if (depth > 0 && chance(25)) {
            return "(" + condition(depth - 1) + ")";
        }
        if (chance(40)) {
            return "f" + "<>=".charAt(below(3)) + below(12);
        }
        return sum(depth) + "<>=".charAt(below(3)) + sum(depth);
    }

    private boolean rota() {
        StringBuilder some = new StringBuilder();
        int weeks = chance(5) ? 12 + below(2) : 1 + below(3);
        for (int week = 0; week < weeks; week++) {
            some.append(week == 0 ? "" : "/");
            for (int day = 0; day < 7;) {
                int times = weeks > 4 ? 7 - day : 1 + below(7 - day);
                some.append(times > 1 ? "" + times : "").append(chance(30) ? '.' : rotaLetter());
                day += times;
            }
        }
        String text = chance(20) ? spoilt(some.toString(), "abcdefghi./0123456789") : some.toString();
        if (text.isEmpty() || !feedAll(bytes(text))) {
            return text.isEmpty();
        }
        told.append("  ").append(text).append('\n');
        int l = living();
        int n = chance(96) ? text.length() : some(1, 90);
        int what = chance(50) ? some(0, 2) : some(10, 17);
        return same("rota(" + l + ", " + n + ", " + what + ")", tree.rota(l, n, what), model.rota(l, n, what));
    }

    private char rotaLetter() {
        for (int i = 0; i < 20; i++) {
            int p = below(8);
            if (model.toldPerson(p)) {
                return (char) ('a' + p);
            }
        }
        return (char) ('a' + below(8));
    }

    private boolean oneCall() {
        int which = below(100);
        if (which < 6) {
            return plant();
        }
        if (which < 10) {
            return person();
        }
        if (which < 13) {
            return text("ehcb", NONE_RULE);
        }
        if (which < 19) {
            return text("g", some(0, 3));
        }
        if (which < 26) {
            return rota();
        }
        if (which < 50) {
            return changing(below(11));
        }
        if (which < 65) {
            return reckoned(below(7));
        }
        return which < 85 ? asked(below(9)) : taped(below(5));
    }

    private boolean changing(int which) {
        int l = some(0, 3);
        int n = some(1, chance(80) ? 4 : 60);
        int cups = some(0, 24);
        boolean is = chance(70);
        switch (which) {
            case 0:
            case 1:
                return same("card(" + l + ", " + is + ")", asNumber(tree.card(l, is)), asNumber(model.card(l, is)));
            case 2:
            case 3:
                return same("pour(" + l + ", " + cups + ")", tree.pour(l, cups), model.pour(l, cups));
            case 4:
            case 5:
            case 6:
                return same("days(" + n + ")", tree.days(n), model.days(n));
            case 7:
                int x = some(0, 65535);
                return same("seed(" + x + ")", asNumber(tree.seed(x)), asNumber(model.seed(x)));
            case 8:
                return same("keep()", tree.keep(), model.keep());
            case 9:
                return same("undo()", asNumber(tree.undo()), asNumber(model.undo()));
            default:
                byte[] bytes = new byte[20];
                random.nextBytes(bytes);
                return feed(bytes);
        }
    }

    private boolean reckoned(int which) {
        int l = living();
        int n = some(1, chance(97) ? 5 : 9);
        int m = some(1, n < 4 ? 3 : n < 5 ? 2 : 1);
        int what = some(0, 1);
        int cups = some(-1, 24);
        int pot = some(4, 24);
        int few = some(chance(60) ? 6 : 0, 10);
        String head = "(" + l + ", " + n + ", " + m + ", ";
        switch (which) {
            case 0:
                for (int wet = -1; wet < 25; wet++) {
                    if (!same("exactly" + head + wet + ")", tree.exactly(l, n, m, wet), model.exactly(l, n, m, wet))) {
                        return false;
                    }
                }
                return same("exactly" + head + cups + ")", tree.exactly(l, n, m, cups), model.exactly(l, n, m, cups));
            case 1:
                return same("chance" + head + what + ")", tree.chance(l, n, m, what), model.chance(l, n, m, what));
            case 2:
                return same("toAsk" + head + what + ")", tree.toAsk(l, n, m, what), model.toAsk(l, n, m, what));
            case 3:
                return same("few" + head + few + ")", tree.few(l, n, m, few), model.few(l, n, m, few));
            case 4:
                return same("pot" + head + pot + ")", tree.pot(l, n, m, pot), model.pot(l, n, m, pot));
            case 5:
                cups = some(1, 9);
                return same("ruleFor" + head + cups + ", " + what + ")",
                    tree.ruleFor(l, n, m, cups, what), model.ruleFor(l, n, m, cups, what));
            default:
                return same("movesOut" + head + what + ")", tree.movesOut(l, n, m, what), model.movesOut(l, n, m, what));
        }
    }

    private boolean asked(int which) {
        int l = living();
        int p = some(0, 7);
        int n = some(1, 60);
        int cups = some(0, 24);
        switch (which) {
            case 0:
                int tried = chance(50) ? some(0, 3) : chance(50) ? some(10, 13) : some(20, 27);
                return same("tried(" + n + ", " + tried + ")", tree.tried(n, tried), model.tried(n, tried));
            case 1:
                int is = some(0, 16);
                return same("plantIs(" + l + ", " + is + ")", tree.plantIs(l, is), model.plantIs(l, is));
            case 2:
                return same("gives(" + p + ", " + l + ")", tree.gives(p, l), model.gives(p, l));
            case 3:
                return same("lasts(" + l + ", " + cups + ")", tree.lasts(l, cups), model.lasts(l, cups));
            case 4:
                n = chance(70) ? some(1, 9) : n;
                return same("needs(" + l + ", " + n + ")", tree.needs(l, n), model.needs(l, n));
            case 5:
                int m = chance(90) ? some(1, 2) : 3;
                int on = chance(70) ? some(0, 6) : 10 + below(2);
                return same("week(" + l + ", " + m + ", " + on + ")", tree.week(l, m, on), model.week(l, m, on));
            case 6:
                int of = chance(70) ? some(0, 3) : 10;
                cups = chance(80) ? some(0, 5) : cups;
                return same("spread(" + cups + ", " + of + ")", tree.spread(cups, of), model.spread(cups, of));
            case 7:
                int who = chance(30) ? -1 : p;
                int part = chance(20) ? some(0, 1) : below(2);
                return same("share(" + who + ", " + part + ")", tree.share(who, part), model.share(who, part));
            default:
                int many = some(2, 6);
                int what = some(0, 2);
                return same("alone(" + many + ", " + what + ")", tree.alone(many, what), model.alone(many, what));
        }
    }

    private boolean taped(int which) {
        byte[] bytes = new byte[20];
        for (int i = 0; i < 20; i++) {
            bytes[i] = (byte) below(chance(98) ? 11 : 256);
        }
        int l = some(0, 3);
        int cups = some(1, 9);
        int what = some(0, 1);
        switch (which) {
            case 0:
                int m = some(1, 12);
                int many = some(0, 12);
                return feed(bytes) && same("comes(" + m + ", " + many + ", " + what + ")",
                    tree.comes(m, many, what), model.comes(m, many, what));
            case 1:
                int need = chance(60) ? some(0, 12) : some(0, 60);
                int of = some(1, 6);
                return feed(bytes) && same("can(" + of + ", " + cups + ", " + need + ", " + what + ")",
                    tree.can(of, cups, need, what), model.can(of, cups, need, what));
            case 2:
                return whoDid();
            case 3:
                return check(l);
            default:
                int count = chance(60) ? some(0, 13) : some(20, 47);
                return same("count(" + count + ")", tree.count(count), model.count(count));
        }
    }

    private boolean whoDid() {
        int n = some(1, 6);
        int cups = some(1, 9);
        int goes = some(0, 9);
        int what = some(0, 2);
        int people = chance(80) ? below(32) << below(4) : some(0, 255);
        byte[] wet = new byte[20];
        wet[0] = (byte) below(20);
        for (int i = 1; i < 7; i++) {
            int comers = below(Math.max(1, Integer.bitCount(people & 255) + 1));
            comers = chance(30) ? Integer.bitCount(people & 255) : comers;
            int then = Math.max(0, (wet[i - 1] & 255) + comers * cups - goes);
            wet[i] = (byte) (chance(93) ? then : below(256));
        }
        return feed(wet) && same("whoDid(" + n + ", " + people + ", " + cups + ", " + goes + ", " + what + ")",
            tree.whoDid(n, people, cups, goes, what), model.whoDid(n, people, cups, goes, what));
    }

    private boolean check(int l) {
        int n = some(0, 7);
        byte[] numbers = new byte[40];
        for (int i = 0; i < 7; i++) {
            int look = model.told(l) ? model.now.plants[l].looks.get(6 - i) : below(9);
            numbers[4 * i + 3] = (byte) (chance(90) ? look : below(9));
            numbers[4 * i] = (byte) (chance(3) ? 1 : 0);
        }
        return feedAll(numbers) && same("check(" + l + ", " + n + ")", tree.check(l, n), model.check(l, n));
    }

    private boolean wholeState() {
        for (int what = -1; what < 50; what++) {
            if (!same("count(" + what + ")", tree.count(what), model.count(what))) {
                return false;
            }
            for (int l = 0; l < 4 && what < 18; l++) {
                if (!same("plantIs(" + l + ", " + what + ")", tree.plantIs(l, what), model.plantIs(l, what))) {
                    return false;
                }
            }
        }
        return true;
    }
}

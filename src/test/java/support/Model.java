import java.util.ArrayList;
import java.util.Arrays;
import java.util.List;
import java.util.function.IntBinaryOperator;

/**
 * The document told a second time, as slowly and plainly as can be: TEXTS are trees, what is reckoned over all DRAWS
 * goes through every one of them, what is a best row is looked for among all rows. RandomRunsTest holds the class
 * against it.
 */
final class Model {
    static final int NONE = -1;

    static final class Fault extends RuntimeException {
        final int answer;

        Fault(int number, int place) {
            answer = -1000 * number - place;
        }
    }

    static final class Refused extends RuntimeException {
    }

    interface Worth {
        int of(int[] letters);
    }

    record Clause(char letter, Worth howMany, Worth when) {
    }

    /** The grammar, by the letter: each function is one rule of it. */
    static final class Grammar {
        final int[] text;
        int at;
        int open;

        Grammar(int[] text) {
            this.text = text;
        }

        int sign() {
            return at < text.length ? text[at] : -1;
        }

        boolean is(String signs) {
            return sign() > 0 && signs.indexOf(sign()) >= 0;
        }

        int take(String signs) {
            if (!is(signs)) {
                throw new Fault(1, at);
            }
            at++;
            return text[at - 1];
        }

        void open(String sign) {
            if (is(sign) && open == 6) {
                throw new Fault(5, at);
            }
            take(sign);
            open++;
        }

        List<Clause> clauses(String kinds) {
            List<Clause> all = new ArrayList<>();
            do {
                if (is(kinds) && all.size() == 14) {
                    throw new Fault(4, at);
                }
                char letter = (char) take(kinds);
                Worth howMany = e();
                open("(");
                Worth when = c();
                take(")");
                open--;
                all.add(new Clause(letter, howMany, when));
                if (at == text.length) {
                    return all;
                }
                take(";");
            } while (true);
        }

        Worth c() {
            Worth left = part();
            while (is("|")) {
                take("|");
                Worth before = left;
                Worth right = part();
                left = x -> before.of(x) != 0 || right.of(x) != 0 ? 1 : 0;
            }
            return left;
        }

        Worth part() {
            Worth left = piece();
            while (is("&")) {
                take("&");
                Worth before = left;
                Worth right = piece();
                left = x -> before.of(x) != 0 && right.of(x) != 0 ? 1 : 0;
            }
            return left;
        }

        Worth piece() {
            if (is("!")) {
                open("!");
                Worth inner = piece();
                open--;
                return x -> inner.of(x) == 0 ? 1 : 0;
            }
            if (is("(")) {
                open("(");
                Worth inner = c();
                take(")");
                open--;
                return inner;
            }
            Worth left = e();
            int sign = take("<>=");
            Worth right = e();
            return x -> {
                int a = left.of(x);
                int b = right.of(x);
                return (sign == '<' ? a < b : sign == '>' ? a > b : a == b) ? 1 : 0;
            };
        }

        Worth both(Worth left, Worth right, IntBinaryOperator how) {
            return x -> {
                int a = left.of(x);
                return how.applyAsInt(a, right.of(x));
            };
        }

        Worth e() {
            Worth left = term();
            while (is("+-")) {
                int sign = take("+-");
                left = both(left, term(), (a, b) -> sign == '+' ? a + b : a - b);
            }
            return left;
        }

        Worth term() {
            Worth left = factor();
            while (is("*/%")) {
                int sign = take("*/%");
                left = both(left, factor(), (a, b) -> {
                    if (sign != '*' && b == 0) {
                        throw new Refused();
                    }
                    return sign == '*' ? a * b : sign == '/' ? a / b : a % b;
                });
            }
            return left;
        }

        Worth factor() {
            if (is("[")) {
                open("[");
                Worth inner = e();
                take("]");
                open--;
                return inner;
            }
            if (is("0123456789")) {
                int worth = 0;
                int digits = 0;
                while (is("0123456789")) {
                    if (digits == 5) {
                        throw new Fault(2, at);
                    }
                    worth = worth * 10 + take("0123456789") - '0';
                    digits++;
                }
                int number = worth;
                return x -> number;
            }
            int letter = take("dwlofsyzptnaq");
            return x -> x[letter];
        }
    }

    static final class Plant implements Cloneable {
        int pot;
        int wet;
        int bears;
        int dry;
        int drowned;
        boolean hasCard;
        int card = NONE;
        List<Integer> looks = new ArrayList<>();

        boolean dead() {
            return dry >= bears || drowned >= bears;
        }

        Plant twin() {
            try {
                Plant other = (Plant) clone();
                other.looks = new ArrayList<>(looks);
                return other;
            } catch (CloneNotSupportedException e) {
                throw new IllegalStateException(e);
            }
        }
    }

    record Person(int tenths, int rule, int given) {
    }

    static final class State {
        Plant[] plants = new Plant[4];
        Person[] people = new Person[8];
        int day;
        int x = 1;

        State twin() {
            State other = new State();
            for (int l = 0; l < 4; l++) {
                other.plants[l] = plants[l] == null ? null : plants[l].twin();
            }
            other.people = people.clone();
            other.day = day;
            other.x = x;
            return other;
        }

        int told() {
            return (int) Arrays.stream(people).filter(p -> p != null).count();
        }

        int draw() {
            x = (int) ((25173L * x + 13849L) % 65536L);
            return x % 10;
        }
    }

    State now = new State();
    State kept;
    List<Clause> law = new ArrayList<>();
    List<List<Clause>> rules = new ArrayList<>();
    List<Integer> tape = new ArrayList<>();

    Model() {
        for (int k = 0; k < 4; k++) {
            rules.add(new ArrayList<>());
        }
    }

    static int ask(List<Clause> text, char letter, int most, int[] letters) {
        for (Clause clause : text) {
            if (clause.letter() != letter) {
                continue;
            }
            boolean holds;
            try {
                holds = clause.when().of(letters) != 0;
            } catch (Refused e) {
                holds = false;
            }
            if (holds) {
                try {
                    return Math.max(0, Math.min(most, clause.howMany().of(letters)));
                } catch (Refused e) {
                    return 0;
                }
            }
        }
        return 0;
    }

    static int[] letters(State state) {
        int[] x = new int[128];
        x['d'] = state.day;
        x['w'] = state.day % 7;
        x['n'] = state.told();
        return x;
    }

    static int[] lettersOf(State state, int l) {
        int[] x = letters(state);
        Plant plant = state.plants[l];
        x['l'] = l;
        x['o'] = plant.pot;
        x['f'] = plant.wet;
        x['s'] = plant.looks.get(6);
        x['y'] = plant.dry;
        x['z'] = plant.drowned;
        x['a'] = !plant.hasCard || plant.card == NONE ? 99 : state.day - plant.card;
        return x;
    }

    boolean told(int l) {
        return l >= 0 && l < 4 && now.plants[l] != null;
    }

    boolean alive(int l) {
        return told(l) && !now.plants[l].dead();
    }

    boolean toldPerson(int p) {
        return p >= 0 && p < 8 && now.people[p] != null;
    }

    static boolean in(int x, int least, int most) {
        return least <= x && x <= most;
    }

    boolean plant(int l, int pot, int wet, int bears) {
        if (!in(l, 0, 3) || !in(pot, 4, 24) || !in(wet, 0, pot) || !in(bears, 1, 9)) {
            return false;
        }
        Plant plant = new Plant();
        plant.pot = pot;
        plant.wet = wet;
        plant.bears = bears;
        for (int k = 0; k < 7; k++) {
            plant.looks.add(wet);
        }
        now.plants[l] = plant;
        return true;
    }

    boolean person(int p, int tenths, int rule) {
        if (!in(p, 0, 7) || !in(tenths, 0, 10) || !in(rule, 0, 3)) {
            return false;
        }
        now.people[p] = new Person(tenths, rule, 0);
        return true;
    }

    boolean card(int l, boolean is) {
        if (!told(l) || now.plants[l].hasCard == is) {
            return false;
        }
        now.plants[l].hasCard = is;
        now.plants[l].card = NONE;
        return true;
    }

    int pour(int l, int cups) {
        if (!alive(l) || !in(cups, 0, 24)) {
            return NONE;
        }
        now.plants[l].wet = Math.min(now.plants[l].pot, now.plants[l].wet + cups);
        return now.plants[l].wet;
    }

    int feed(int a, int b, int c, int d, int e) {
        if (tape.size() > 200) {
            return NONE;
        }
        for (int x : new int[] {a, b, c, d, e}) {
            tape.add(x >>> 24);
            tape.add((x >>> 16) % 256);
            tape.add((x >>> 8) % 256);
            tape.add(x & 255);
        }
        return tape.size();
    }

    private int[] takeTape(int n) {
        int[] bytes = new int[n];
        for (int i = 0; i < n; i++) {
            bytes[i] = tape.get(i);
        }
        tape.clear();
        return bytes;
    }

    int law(int n) {
        if (!in(n, 1, 200) || n > tape.size()) {
            return NONE;
        }
        try {
            law = new Grammar(takeTape(n)).clauses("ehcb");
            return law.size();
        } catch (Fault fault) {
            return fault.answer;
        }
    }

    int rule(int k, int n) {
        if (!in(k, 0, 3) || !in(n, 1, 200) || n > tape.size()) {
            return NONE;
        }
        try {
            rules.set(k, new Grammar(takeTape(n)).clauses("g"));
            return rules.get(k).size();
        } catch (Fault fault) {
            return fault.answer;
        }
    }

    private int gift(State state, int p, int l) {
        int[] x = lettersOf(state, l);
        x['p'] = p;
        x['t'] = state.people[p].tenths();
        x['q'] = state.people[p].given();
        return ask(rules.get(state.people[p].rule()), 'g', 9, x);
    }

    /** CUPS given and CUPS that ran over. */
    private int[] give(State state, int p, int l) {
        Plant plant = state.plants[l];
        int cups = gift(state, p, l);
        Person person = state.people[p];
        state.people[p] = new Person(person.tenths(), person.rule(), person.given() + cups);
        int over = Math.max(0, plant.wet + cups - plant.pot);
        plant.wet = plant.wet + cups - over;
        if (cups > 0 && plant.hasCard) {
            plant.card = state.day;
        }
        return new int[] {cups, over};
    }

    private void end(State state, int l, boolean sunny) {
        int[] x = lettersOf(state, l);
        int less = ask(law, 'e', 9, x) + (sunny ? ask(law, 'h', 9, x) : 0);
        Plant plant = state.plants[l];
        plant.wet = Math.max(0, plant.wet - less);
        plant.dry = plant.wet == 0 ? plant.dry + 1 : 0;
        plant.drowned = plant.wet == plant.pot ? plant.drowned + 1 : 0;
        plant.looks.add(0, plant.wet);
        plant.looks.remove(7);
    }

    /** CUPS given, run over, sunny DAYS. */
    private int[] go(State state, int n) {
        int[] sums = new int[3];
        for (int i = 0; i < n && state.day < 9999; i++) {
            for (int p = 0; p < 8; p++) {
                if (state.people[p] == null || state.draw() >= state.people[p].tenths()) {
                    continue;
                }
                for (int l = 0; l < 4; l++) {
                    if (state.plants[l] != null && !state.plants[l].dead()) {
                        int[] given = give(state, p, l);
                        sums[0] += given[0];
                        sums[1] += given[1];
                    }
                }
            }
            for (int l = 0; l < 4; l++) {
                if (state.plants[l] != null && !state.plants[l].dead()) {
                    boolean sunny = state.draw() < 5;
                    sums[2] += sunny ? 1 : 0;
                    end(state, l, sunny);
                }
            }
            state.day++;
        }
        return sums;
    }

    int days(int n) {
        return in(n, 1, 60) ? go(now, n)[0] : NONE;
    }

    int tried(int n, int what) {
        if (!in(n, 1, 60) || !(in(what, 0, 3) || told(what - 10) || toldPerson(what - 20))) {
            return NONE;
        }
        State then = now.twin();
        int[] sums = go(then, n);
        if (what >= 20) {
            return then.people[what - 20].given() - now.people[what - 20].given();
        }
        if (what >= 10) {
            return then.plants[what - 10].wet;
        }
        int dead = 0;
        for (Plant plant : then.plants) {
            dead += plant != null && plant.dead() ? 1 : 0;
        }
        return what == 0 ? sums[0] : what == 1 ? sums[1] : what == 2 ? dead : sums[2];
    }

    int plantIs(int l, int what) {
        if (!told(l) || !in(what, 0, 16)) {
            return NONE;
        }
        Plant plant = now.plants[l];
        if (what >= 10) {
            return plant.looks.get(what - 10);
        }
        int card = !plant.hasCard ? -2 : plant.card == NONE ? -3 : plant.card;
        int[] all = {plant.pot, plant.wet, plant.bears, plant.dry, plant.drowned, plant.dead() ? 1 : 0, card,
            NONE, NONE, NONE};
        return all[what];
    }

    int gives(int p, int l) {
        if (!toldPerson(p) || !told(l)) {
            return NONE;
        }
        return alive(l) ? gift(now, p, l) : 0;
    }

    /** What the DRAWS are gone through for: the end of each way, with its weight. */
    final class Ways {
        final int l;
        final int n;
        final int[] who;
        int[] tenths;
        int pot;
        int wet;
        int under = NONE;
        int cups;
        long living;
        long[] wets = new long[25];
        long all;

        Ways(int l, int n, int m) {
            this.l = l;
            this.n = n;
            who = lowest(m);
            tenths = new int[m];
            for (int i = 0; i < m; i++) {
                tenths[i] = now.people[who[i]].tenths();
            }
            pot = now.plants[l].pot;
            wet = now.plants[l].wet;
        }

        Ways go() {
            living = 0;
            all = 0;
            Arrays.fill(wets, 0);
            Plant plant = now.plants[l];
            int first = Math.min(pot, wet);
            day(0, first, first, plant.dry, plant.drowned, 1);
            return this;
        }

        private void day(int day, int first, int f, int y, int z, long weight) {
            if (weight == 0) {
                return;
            }
            boolean dead = y >= now.plants[l].bears || z >= now.plants[l].bears;
            if (day == n) {
                living += dead ? 0 : weight;
                all += weight;
                wets[f] += weight;
                return;
            }
            if (dead) {
                long more = 1;
                for (int i = 0; i <= who.length; i++) {
                    more *= 10;
                }
                day(day + 1, first, f, y, z, weight * more);
                return;
            }
            comer(0, day, first, f, y, z, weight);
        }

        private int[] letters(int day, int first, int f, int y, int z) {
            int[] x = Model.letters(now);
            x['d'] = now.day + day;
            x['w'] = x['d'] % 7;
            x['l'] = l;
            x['o'] = pot;
            x['f'] = f;
            x['s'] = first;
            x['y'] = y;
            x['z'] = z;
            x['a'] = 99;
            return x;
        }

        private void comer(int i, int day, int first, int f, int y, int z, long weight) {
            if (weight == 0) {
                return;
            }
            int[] x = letters(day, first, f, y, z);
            if (i == who.length) {
                int e = ask(law, 'e', 9, x);
                int h = ask(law, 'h', 9, x);
                for (int less : new int[] {e, e + h}) {
                    int then = Math.max(0, f - less);
                    day(day + 1, first, then, then == 0 ? y + 1 : 0, then == pot ? z + 1 : 0, weight * 5);
                }
                return;
            }
            x['p'] = who[i];
            x['t'] = tenths[i];
            int g = ask(rules.get(now.people[who[i]].rule()), 'g', 9, x);
            if (under != NONE) {
                g = f < under ? cups : 0;
            }
            comer(i + 1, day, first, f, y, z, weight * (10 - tenths[i]));
            comer(i + 1, day, first, Math.min(pot, f + g), y, z, weight * tenths[i]);
        }
    }

    private int[] lowest(int m) {
        int[] who = new int[m];
        int many = 0;
        for (int p = 0; p < 8 && many < m; p++) {
            if (now.people[p] != null) {
                who[many++] = p;
            }
        }
        return who;
    }

    private boolean noWays(int l, int n, int m) {
        return !alive(l) || !in(n, 1, 9) || !in(m, 1, 3) || n * (m + 1) > 18 || now.told() < m;
    }

    long exactly(int l, int n, int m, int cups) {
        if (noWays(l, n, m) || !in(cups, -1, 24)) {
            return NONE;
        }
        Ways ways = new Ways(l, n, m).go();
        return cups == NONE ? ways.all - ways.living : ways.wets[cups];
    }

    long chance(int l, int n, int m, int what) {
        if (noWays(l, n, m) || !in(what, 0, 1)) {
            return NONE;
        }
        long[] best = {-1, -1};
        for (int t = 0; t <= 10; t++) {
            Ways ways = new Ways(l, n, m);
            Arrays.fill(ways.tenths, t);
            if (ways.go().living > best[1]) {
                best = new long[] {t, ways.living};
            }
        }
        return best[what];
    }

    long toAsk(int l, int n, int m, int what) {
        if (noWays(l, n, m) || !in(what, 0, 1)) {
            return NONE;
        }
        long[] best = {-2, new Ways(l, n, m).go().living};
        for (int i = 0; i < m; i++) {
            Ways ways = new Ways(l, n, m);
            for (int j = 0; j < m; j++) {
                ways.tenths[j] = j == i ? 10 : Math.max(0, ways.tenths[j] - 2);
            }
            if (ways.go().living > best[1]) {
                best = new long[] {ways.who[i], ways.living};
            }
        }
        return best[what];
    }

    int few(int l, int n, int m, int tens) {
        if (noWays(l, n, m) || !in(tens, 0, 10)) {
            return NONE;
        }
        for (int some = 0; some <= m; some++) {
            Ways ways = new Ways(l, n, some).go();
            if (ways.living >= ways.all / 10 * tens) {
                return some;
            }
        }
        return -2;
    }

    long pot(int l, int n, int m, int pot) {
        if (noWays(l, n, m) || !in(pot, 4, 24)) {
            return -1000000000000L;
        }
        Ways ways = new Ways(l, n, m);
        ways.pot = pot;
        return ways.go().living - new Ways(l, n, m).go().living;
    }

    long ruleFor(int l, int n, int m, int cups, int what) {
        if (noWays(l, n, m) || !in(cups, 1, 9) || !in(what, 0, 1)) {
            return NONE;
        }
        long[] best = {-1, -1};
        for (int x = 0; x <= 24; x++) {
            Ways ways = new Ways(l, n, m);
            ways.under = x;
            ways.cups = cups;
            if (ways.go().living > best[1]) {
                best = new long[] {x, ways.living};
            }
        }
        return best[what];
    }

    long movesOut(int l, int n, int m, int what) {
        if (noWays(l, n, m) || !in(what, 0, 1)) {
            return NONE;
        }
        long[] best = null;
        for (int i = 0; i < m; i++) {
            Ways ways = new Ways(l, n, m);
            ways.tenths[i] = 0;
            ways.go();
            if (best == null || ways.living < best[1]) {
                best = new long[] {ways.who[i], ways.living};
            }
        }
        return best[what];
    }

    int lasts(int l, int cups) {
        if (!alive(l) || !in(cups, 0, 24)) {
            return NONE;
        }
        State then = now.twin();
        then.plants[l].wet = Math.min(then.plants[l].pot, then.plants[l].wet + cups);
        int days = 0;
        while (days < 60) {
            end(then, l, false);
            then.day++;
            if (then.plants[l].dead()) {
                break;
            }
            days++;
        }
        return days;
    }

    int needs(int l, int days) {
        if (!alive(l) || !in(days, 1, 60)) {
            return NONE;
        }
        for (int cups = 0; cups <= 24; cups++) {
            if (lasts(l, cups) >= days) {
                return cups;
            }
        }
        return -2;
    }

    int week(int l, int m, int what) {
        if (!alive(l) || !in(m, 1, 3) || now.told() < m || !(in(what, 0, 6) || what == 10 || what == 11)) {
            return NONE;
        }
        int[] who = lowest(m);
        int rows = 1;
        for (int i = 0; i < 7; i++) {
            rows *= m + 1;
        }
        int fewest = 8;
        int wet = 0;
        int[] best = null;
        for (int number = 0; number < rows; number++) {
            int[] row = new int[7];
            int rest = number;
            int comings = 0;
            for (int i = 6; i >= 0; i--) {
                row[i] = rest % (m + 1);
                rest /= m + 1;
                comings += row[i] < m ? 1 : 0;
            }
            if (comings >= fewest) {
                continue;
            }
            State then = now.twin();
            for (int i = 0; i < 7 && !then.plants[l].dead(); i++) {
                if (row[i] < m) {
                    give(then, who[row[i]], l);
                }
                end(then, l, false);
                then.day++;
            }
            if (!then.plants[l].dead()) {
                fewest = comings;
                best = row;
                wet = then.plants[l].wet;
            }
        }
        if (best == null) {
            return -2;
        }
        return what == 10 ? fewest : what == 11 ? wet : best[what] == m ? -3 : who[best[what]];
    }

    int spread(int cups, int what) {
        if (!in(cups, 0, 24) || !(in(what, 0, 3) || what == 10)) {
            return NONE;
        }
        if (!alive(0) && !alive(1) && !alive(2) && !alive(3)) {
            return -2;
        }
        int best = -1;
        int[] row = new int[4];
        for (int number = 0; number < 25 * 25 * 25 * 25; number++) {
            int[] some = {number / 15625, number / 625 % 25, number / 25 % 25, number % 25};
            if (some[0] + some[1] + some[2] + some[3] != cups) {
                continue;
            }
            int least = 60;
            boolean can = true;
            for (int l = 0; l < 4; l++) {
                can &= alive(l) || some[l] == 0;
                least = can && alive(l) ? Math.min(least, lasts(l, some[l])) : least;
            }
            if (can && least > best) {
                best = least;
                row = some;
            }
        }
        return what == 10 ? best : row[what];
    }

    /** The ODDS of each number of comers, by going through who comes and who does not. */
    private static long[] comers(int[] tenths) {
        long[] odds = new long[13];
        for (int set = 0; set < 1 << tenths.length; set++) {
            long weight = 1;
            for (int i = 0; i < tenths.length; i++) {
                weight *= (set >> i & 1) == 1 ? tenths[i] : 10 - tenths[i];
            }
            odds[Integer.bitCount(set)] += weight;
        }
        return odds;
    }

    private static long part(long above, long below, int what) {
        java.math.BigInteger common = java.math.BigInteger.valueOf(above).gcd(java.math.BigInteger.valueOf(below));
        return (what == 0 ? above : below) / common.longValue();
    }

    long comes(int m, int many, int what) {
        if (!in(m, 1, 12) || !in(many, 0, 12) || !in(what, 0, 1) || m > tape.size()) {
            return NONE;
        }
        int[] tenths = takeTape(m);
        if (Arrays.stream(tenths).anyMatch(t -> t > 10)) {
            return -2;
        }
        return part(comers(tenths)[many], (long) Math.pow(10, m), what);
    }

    long can(int m, int cups, int need, int what) {
        if (!in(m, 1, 6) || !in(cups, 1, 9) || !in(need, 0, 60) || !in(what, 0, 1) || m > tape.size()) {
            return NONE;
        }
        int[] tenths = takeTape(m);
        if (Arrays.stream(tenths).anyMatch(t -> t > 10)) {
            return -2;
        }
        long[] odds = comers(tenths);
        long without = 0;
        long with = 0;
        for (int k = 0; k <= m; k++) {
            without += odds[k] * Math.max(0, k * cups - need);
            with += odds[k] * Math.max(0, (k == 0 ? 0 : cups) - need);
        }
        return part(without - with, (long) Math.pow(10, m), what);
    }

    int share(int p, int what) {
        if (p == NONE && what == 0) {
            int best = -2;
            for (int i = 7; i >= 0; i--) {
                int given = toldPerson(i) ? now.people[i].given() : 0;
                if (given > 0 && (best == -2 || given >= now.people[best].given())) {
                    best = i;
                }
            }
            return best;
        }
        if (!toldPerson(p) || !in(what, 0, 1)) {
            return NONE;
        }
        int all = Arrays.stream(now.people).filter(x -> x != null).mapToInt(Person::given).sum();
        return all == 0 ? what : (int) part(now.people[p].given(), all, what);
    }

    private int[] readRota(int[] text) {
        List<Integer> days = new ArrayList<>();
        int week = 0;
        int at = 0;
        while (true) {
            int inWeek = days.size() - 7 * week;
            int sign = at < text.length ? text[at] : -1;
            if (inWeek == 7 && sign == -1) {
                return days.stream().mapToInt(Integer::intValue).toArray();
            }
            if (inWeek == 7 && sign == '/') {
                week++;
                at++;
                continue;
            }
            boolean digit = "234567".indexOf((char) sign) >= 0;
            if (!digit && ".abcdefgh".indexOf((char) sign) < 0) {
                throw new Fault(1, at);
            }
            if (week == 12) {
                throw new Fault(4, at);
            }
            int times = digit ? sign - '0' : 1;
            if (inWeek + times > 7) {
                throw new Fault(6, at);
            }
            if (digit) {
                at++;
                sign = at < text.length ? text[at] : -1;
                if (".abcdefgh".indexOf((char) sign) < 0) {
                    throw new Fault(1, at);
                }
            }
            int who = sign == '.' ? NONE : sign - 'a';
            if (who != NONE && !toldPerson(who)) {
                throw new Fault(7, at);
            }
            for (int i = 0; i < times; i++) {
                days.add(who);
            }
            at++;
        }
    }

    int rota(int l, int n, int what) {
        if (!alive(l) || !in(n, 1, 90) || n > tape.size() || now.day > 9915) {
            return NONE;
        }
        if (!in(what, 0, 2) && !in(what, 10, 17)) {
            return NONE;
        }
        int[] days;
        try {
            days = readRota(takeTape(n));
        } catch (Fault fault) {
            return fault.answer;
        }
        if (what == 0) {
            return days.length;
        }
        if (what >= 10) {
            return (int) Arrays.stream(days).filter(p -> p == what - 10).count();
        }
        State then = now.twin();
        for (int i = 0; i < days.length; i++) {
            if (days[i] != NONE) {
                give(then, days[i], l);
            }
            end(then, l, then.draw() < 5);
            then.day++;
            if (then.plants[l].dead()) {
                return what == 1 ? i : then.plants[l].wet;
            }
        }
        return what == 1 ? -2 : then.plants[l].wet;
    }

    int alone(int n, int what) {
        if (!in(n, 2, 6) || !in(what, 0, 2)) {
            return NONE;
        }
        int[] c = new int[n];
        int[] b = new int[n];
        for (int p = 0; p < n; p++) {
            int[] x = letters(now);
            x['p'] = p;
            c[p] = ask(law, 'c', 99, x);
            b[p] = ask(law, 'b', 999, x);
        }
        List<Integer> rows = new ArrayList<>();
        for (int row = 0; row < 1 << n; row++) {
            boolean still = true;
            for (int p = 0; p < n; p++) {
                boolean waters = (row >> p & 1) == 1;
                boolean others = (row & ~(1 << p)) != 0;
                int watering = b[p] - c[p];
                int not = others ? b[p] : 0;
                still &= waters ? watering >= not : not >= watering;
            }
            if (still) {
                rows.add(row);
            }
        }
        if (what < 2) {
            return what == 0 ? rows.size() : rows.isEmpty() ? -2 : rows.get(0);
        }
        int best = -2;
        for (int t = 0; t <= 10; t++) {
            boolean holds = true;
            for (int p = 0; p < n; p++) {
                long all = 1;
                long nobody = 1;
                for (int i = 1; i < n; i++) {
                    all *= 10;
                    nobody *= 10 - t;
                }
                holds &= (b[p] - c[p]) * all >= b[p] * (all - nobody);
            }
            best = holds ? t : best;
        }
        return best;
    }

    long whoDid(int n, int people, int cups, int goes, int what) {
        if (!in(n, 1, 6) || !in(people, 1, 255) || Integer.bitCount(people) > 5 || !in(cups, 1, 9)) {
            return NONE;
        }
        if (!in(goes, 0, 9) || !in(what, 0, 2) || n + 1 > tape.size()) {
            return NONE;
        }
        int[] wet = takeTape(n + 1);
        long rows = 1;
        int unfit = -2;
        int must = 0;
        for (int day = n - 1; day >= 0; day--) {
            List<Integer> sets = new ArrayList<>();
            for (int set = 0; set < 256; set++) {
                int then = Math.max(0, wet[day] + Integer.bitCount(set) * cups - goes);
                if ((set | people) == people && then == wet[day + 1]) {
                    sets.add(set);
                }
            }
            rows *= sets.size();
            unfit = sets.isEmpty() ? day : unfit;
            int inAll = 255;
            for (int set : sets) {
                inAll &= set;
            }
            must |= inAll;
        }
        return what == 0 ? rows : what == 1 ? unfit : rows == 0 ? 0 : must;
    }

    boolean seed(int x) {
        if (!in(x, 0, 65535)) {
            return false;
        }
        now.x = x;
        return true;
    }

    int keep() {
        kept = now.twin();
        int cups = 0;
        for (Plant plant : now.plants) {
            cups += plant == null ? 0 : plant.wet;
        }
        return cups;
    }

    boolean undo() {
        if (kept == null) {
            return false;
        }
        now = kept.twin();
        return true;
    }

    int check(int l, int n) {
        if (!told(l) || !in(n, 0, 7) || 4 * n > tape.size()) {
            return -2;
        }
        int[] bytes = takeTape(4 * n);
        for (int i = 0; i < n; i++) {
            long number = 0;
            for (int k = 0; k < 4; k++) {
                number = number * 256 + bytes[4 * i + k];
            }
            if (number != now.plants[l].looks.get(6 - i)) {
                return i;
            }
        }
        return NONE;
    }

    int count(int what) {
        int told = 0;
        int dead = 0;
        int people = 0;
        for (int l = 0; l < 4; l++) {
            told += told(l) ? 1 << l : 0;
            dead += told(l) && !alive(l) ? 1 << l : 0;
        }
        for (int p = 0; p < 8; p++) {
            people += toldPerson(p) ? 1 << p : 0;
        }
        if (in(what, 0, 6)) {
            return new int[] {now.day, told, dead, people, law.size(), tape.size(), now.x}[what];
        }
        if (in(what, 10, 13)) {
            return rules.get(what - 10).size();
        }
        if (toldPerson(what - 20)) {
            return now.people[what - 20].tenths();
        }
        if (toldPerson(what - 30)) {
            return now.people[what - 30].rule();
        }
        return toldPerson(what - 40) ? now.people[what - 40].given() : NONE;
    }
}

import java.util.Arrays;

/** Plants in pots on a landing: ../shared/DOC.md says what each call answers. */
public final class LandingTree {
    public static final int NONE = -1;

    private static final int PLANTS = 4;
    private static final int PEOPLE = 8;
    private static final int RULES = 4;
    private static final int LOOKS = 7;
    private static final int WEEK_DAYS = 7;
    private static final int LEAST_POT = 4;
    private static final int MOST_CUPS = 24;
    private static final int MOST_GIVEN = 9;
    private static final int MOST_BEARS = 9;
    private static final int TENTHS = 10;
    private static final int LAST_DAY = 9999;
    private static final int MOST_DAYS = 60;
    private static final int MOST_ASKED = 3;
    private static final int MOST_DRAWS = 18;
    private static final int NEVER = 99;
    // What calls tell behind NONE, as the document numbers it: nobody, by none, no CARD; nothing on it, nobody comes
    private static final int NOT_SO = -2;
    private static final int NOT_EVEN_SO = -3;
    private static final long NO_POT = -1000000000000L;

    private final Landing now = new Landing();
    private final Landing kept = new Landing();
    private final Landing trial = new Landing();
    private boolean isKept;
    private final Tape tape = new Tape();
    private final Book book = new Book(tape);
    private final Chances chances = new Chances();
    private final Week search = new Week();
    private final Rota roster = new Rota();
    private final int[] lasting = new int[PLANTS * (MOST_CUPS + 1)];
    private final int[] shares = new int[PLANTS];
    private final long[] odds = new long[13];

    public LandingTree() {
    }

    public boolean plant(int l, int pot, int wet, int bears) {
        if (!isPlace(l, PLANTS) || !isWithin(pot, LEAST_POT, MOST_CUPS)) {
            return false;
        }
        if (!isWithin(wet, 0, pot) || !isWithin(bears, 1, MOST_BEARS)) {
            return false;
        }
        now.plants[l].tell(pot, wet, bears);
        return true;
    }

    public boolean person(int p, int tenths, int rule) {
        if (!isPlace(p, PEOPLE) || !isWithin(tenths, 0, TENTHS) || !isPlace(rule, RULES)) {
            return false;
        }
        now.tellPerson(p, tenths, rule);
        return true;
    }

    public boolean card(int l, boolean is) {
        if (!now.isPlant(l) || now.plants[l].hasCard == is) {
            return false;
        }
        now.plants[l].hasCard = is;
        now.plants[l].card = NONE;
        return true;
    }

    public int pour(int l, int cups) {
        if (!now.isAlive(l) || !isWithin(cups, 0, MOST_CUPS)) {
            return NONE;
        }
        now.plants[l].wetBy(cups);
        return now.plants[l].wet;
    }

    public int feed(int a, int b, int c, int d, int e) {
        if (!tape.hasRoom(20)) {
            return NONE;
        }
        tape.add(a);
        tape.add(b);
        tape.add(c);
        tape.add(d);
        tape.add(e);
        return tape.length;
    }

    public int law(int n) {
        if (!isWithin(n, 1, Text.MOST_BYTES) || n > tape.length) {
            return NONE;
        }
        int answer = book.writeLaw(n);
        tape.length = 0;
        return answer;
    }

    public int rule(int k, int n) {
        if (!isPlace(k, RULES) || !isWithin(n, 1, Text.MOST_BYTES) || n > tape.length) {
            return NONE;
        }
        int answer = book.writeRule(k, n);
        tape.length = 0;
        return answer;
    }

    public int days(int n) {
        if (!isWithin(n, 1, MOST_DAYS)) {
            return NONE;
        }
        now.goBy(book, n);
        return now.given;
    }

    public int tried(int n, int what) {
        if (!isWithin(n, 1, MOST_DAYS) || !canTry(what)) {
            return NONE;
        }
        trial.copy(now);
        trial.goBy(book, n);
        if (what >= 20) {
            return trial.people[what - 20].given - now.people[what - 20].given;
        }
        if (what >= 10) {
            return trial.plants[what - 10].wet;
        }
        if (what == 0) {
            return trial.given;
        }
        if (what == 1) {
            return trial.over;
        }
        return what == 2 ? Integer.bitCount(trial.deadBits()) : trial.sunny;
    }

    private boolean canTry(int what) {
        return isWithin(what, 0, 3) || now.isPlant(what - 10) || now.isPerson(what - 20);
    }

    public int plantIs(int l, int what) {
        if (!now.isPlant(l)) {
            return NONE;
        }
        Plant plant = now.plants[l];
        if (isPlace(what - 10, LOOKS)) {
            return plant.looks[what - 10];
        }
        switch (what) {
            case 0:
                return plant.pot;
            case 1:
                return plant.wet;
            case 2:
                return plant.bears;
            case 3:
                return plant.dry;
            case 4:
                return plant.drowned;
            case 5:
                return plant.isDead() ? 1 : 0;
            case 6:
                return cardOf(plant);
            default:
                return NONE;
        }
    }

    private static int cardOf(Plant plant) {
        if (!plant.hasCard) {
            return NOT_SO;
        }
        return plant.card == NONE ? NOT_EVEN_SO : plant.card;
    }

    public int gives(int p, int l) {
        if (!now.isPerson(p) || !now.isPlant(l)) {
            return NONE;
        }
        return now.isAlive(l) ? book.gift(now, p, l) : 0;
    }

    public long exactly(int l, int n, int m, int cups) {
        if (!canReckon(l, n, m) || !isWithin(cups, NONE, MOST_CUPS)) {
            return NONE;
        }
        long lives = livesAsItIs(l, n, m);
        return cups == NONE ? chances.all - lives : chances.wetIs(cups);
    }

    public long chance(int l, int n, int m, int what) {
        if (!canReckon(l, n, m) || !isWithin(what, 0, 1)) {
            return NONE;
        }
        int best = NONE;
        long most = NONE;
        chances.take(now, l, m);
        for (int tenths = 0; tenths <= TENTHS; tenths++) {
            Arrays.fill(chances.tenths, tenths);
            long lives = chances.lives(now, book, n);
            if (lives > most) {
                most = lives;
                best = tenths;
            }
        }
        return what == 0 ? best : most;
    }

    public long toAsk(int l, int n, int m, int what) {
        if (!canReckon(l, n, m) || !isWithin(what, 0, 1)) {
            return NONE;
        }
        int best = NOT_SO;
        long most = livesAsItIs(l, n, m);
        for (int i = 0; i < m; i++) {
            chances.take(now, l, m);
            chances.ask(i);
            long lives = chances.lives(now, book, n);
            if (lives > most) {
                most = lives;
                best = chances.who[i];
            }
        }
        return what == 0 ? best : most;
    }

    public int few(int l, int n, int m, int tens) {
        if (!canReckon(l, n, m) || !isWithin(tens, 0, TENTHS)) {
            return NONE;
        }
        for (int some = 0; some <= m; some++) {
            chances.take(now, l, m);
            chances.onlyFirst(some);
            long lives = chances.lives(now, book, n);
            if (lives >= tens * (chances.all / TENTHS)) {
                return some;
            }
        }
        return NOT_SO;
    }

    public long pot(int l, int n, int m, int pot) {
        if (!canReckon(l, n, m) || !isWithin(pot, LEAST_POT, MOST_CUPS)) {
            return NO_POT;
        }
        long before = livesAsItIs(l, n, m);
        chances.pot = pot;
        return chances.lives(now, book, n) - before;
    }

    public long ruleFor(int l, int n, int m, int cups, int what) {
        if (!canReckon(l, n, m) || !isWithin(cups, 1, MOST_GIVEN) || !isWithin(what, 0, 1)) {
            return NONE;
        }
        int best = NONE;
        long most = NONE;
        chances.take(now, l, m);
        for (int x = 0; x <= MOST_CUPS; x++) {
            chances.giveBelow(x, cups);
            long lives = chances.lives(now, book, n);
            if (lives > most) {
                most = lives;
                best = x;
            }
        }
        return what == 0 ? best : most;
    }

    public int lasts(int l, int cups) {
        if (!now.isAlive(l) || !isWithin(cups, 0, MOST_CUPS)) {
            return NONE;
        }
        trial.copy(now);
        return lastsWith(l, cups);
    }

    public int needs(int l, int days) {
        if (!now.isAlive(l) || !isWithin(days, 1, MOST_DAYS)) {
            return NONE;
        }
        trial.copy(now);
        for (int cups = 0; cups <= MOST_CUPS; cups++) {
            if (lastsWith(l, cups) >= days) {
                return cups;
            }
        }
        return NOT_SO;
    }

    public int week(int l, int m, int what) {
        if (!now.isAlive(l) || !areTold(m)) {
            return NONE;
        }
        if (!isPlace(what, WEEK_DAYS) && what != 10 && what != 11) {
            return NONE;
        }
        trial.copy(now);
        if (!search.find(trial, book, l, m)) {
            return NOT_SO;
        }
        if (what == 10) {
            return search.comings;
        }
        return what == 11 ? search.wet : search.comer(what);
    }

    public long movesOut(int l, int n, int m, int what) {
        if (!canReckon(l, n, m) || !isWithin(what, 0, 1)) {
            return NONE;
        }
        int best = NONE;
        long least = NONE;
        for (int i = 0; i < m; i++) {
            chances.take(now, l, m);
            chances.tenths[i] = 0;
            long lives = chances.lives(now, book, n);
            if (least == NONE || lives < least) {
                least = lives;
                best = chances.who[i];
            }
        }
        return what == 0 ? best : least;
    }

    public int spread(int cups, int what) {
        if (!isWithin(cups, 0, MOST_CUPS) || (!isPlace(what, PLANTS) && what != 10)) {
            return NONE;
        }
        if (now.toldPlants() == now.deadBits()) {
            return NOT_SO;
        }
        fillLasting(cups);
        int longest = spreadBest(cups);
        return what == 10 ? longest : shares[what];
    }

    public long comes(int m, int many, int what) {
        if (!isWithin(m, 1, 12) || !isWithin(many, 0, 12) || !isWithin(what, 0, 1)) {
            return NONE;
        }
        if (m > tape.length) {
            return NONE;
        }
        boolean areTenths = fillOdds(m);
        tape.length = 0;
        return areTenths ? part(odds[many], power(m), what) : NOT_SO;
    }

    public int share(int p, int what) {
        if (p == NONE && what == 0) {
            return theOne();
        }
        if (!now.isPerson(p) || !isWithin(what, 0, 1)) {
            return NONE;
        }
        int all = 0;
        for (int i = 0; i < PEOPLE; i++) {
            all += now.people[i].given;
        }
        return (int) part(now.people[p].given, Math.max(all, 1), what);
    }

    public int rota(int l, int n, int what) {
        if (!now.isAlive(l) || !isWithin(n, 1, Rota.MOST_BYTES) || n > tape.length) {
            return NONE;
        }
        if (now.day > LAST_DAY - Rota.MOST_DAYS) {
            return NONE;
        }
        if (!isWithin(what, 0, 2) && !isPlace(what - 10, PEOPLE)) {
            return NONE;
        }
        int fault = roster.read(tape, n, now);
        tape.length = 0;
        if (fault != 0) {
            return fault;
        }
        if (what == 0) {
            return roster.length;
        }
        return what >= 10 ? roster.daysOf(what - 10) : rotaOn(l, what);
    }

    public int alone(int n, int what) {
        if (!isWithin(n, 2, 6) || !isWithin(what, 0, 2)) {
            return NONE;
        }
        book.setPrices(now, n);
        if (what == 2) {
            return evenTenths(n);
        }
        int many = 0;
        int lowest = NOT_SO;
        for (int row = 0; row < 1 << n; row++) {
            if (nobodyGains(row, n)) {
                many++;
                lowest = lowest == NOT_SO ? row : lowest;
            }
        }
        return what == 0 ? many : lowest;
    }

    public long whoDid(int n, int people, int cups, int goes, int what) {
        if (!isWithin(n, 1, 6) || !isWithin(people, 1, 255) || Integer.bitCount(people) > 5) {
            return NONE;
        }
        if (!isWithin(cups, 1, MOST_GIVEN) || !isWithin(goes, 0, 9) || !isWithin(what, 0, 2)) {
            return NONE;
        }
        if (n + 1 > tape.length) {
            return NONE;
        }
        long rows = 1;
        int unfit = NOT_SO;
        int always = 0;
        for (int day = 0; day < n; day++) {
            int fit = 0;
            int inAll = people;
            for (int set = 0; set <= people; set++) {
                if ((set & people) == set && fits(day, Integer.bitCount(set) * cups - goes)) {
                    fit++;
                    inAll &= set;
                }
            }
            unfit = fit == 0 && unfit == NOT_SO ? day : unfit;
            rows *= fit;
            always |= inAll;
        }
        tape.length = 0;
        if (what == 0) {
            return rows;
        }
        return what == 1 ? unfit : rows == 0 ? 0 : always;
    }

    public long can(int m, int cups, int need, int what) {
        if (!isWithin(m, 1, 6) || !isWithin(cups, 1, MOST_GIVEN)) {
            return NONE;
        }
        if (!isWithin(need, 0, 60) || !isWithin(what, 0, 1) || m > tape.length) {
            return NONE;
        }
        boolean areTenths = fillOdds(m);
        tape.length = 0;
        if (!areTenths) {
            return NOT_SO;
        }
        long above = 0;
        for (int many = 0; many <= m; many++) {
            int without = Math.max(0, cups * many - need);
            int with = Math.max(0, cups * Math.min(many, 1) - need);
            above += odds[many] * (without - with);
        }
        return part(above, power(m), what);
    }

    public boolean seed(int x) {
        if (!isWithin(x, 0, 65535)) {
            return false;
        }
        now.x = x;
        return true;
    }

    public int keep() {
        kept.copy(now);
        isKept = true;
        int cups = 0;
        for (int l = 0; l < PLANTS; l++) {
            cups += now.plants[l].wet;
        }
        return cups;
    }

    public boolean undo() {
        if (!isKept) {
            return false;
        }
        now.copy(kept);
        return true;
    }

    public int check(int l, int n) {
        if (!now.isPlant(l) || !isWithin(n, 0, LOOKS) || 4 * n > tape.length) {
            return NOT_SO;
        }
        int wrong = NONE;
        for (int i = 0; i < n && wrong == NONE; i++) {
            if (tape.number(i) != now.plants[l].looks[LOOKS - 1 - i]) {
                wrong = i;
            }
        }
        tape.length = 0;
        return wrong;
    }

    public int count(int what) {
        if (isPlace(what - 10, RULES)) {
            return book.rules[what - 10].clauses;
        }
        if (what >= 20) {
            return countPerson(what / 10, what % 10);
        }
        switch (what) {
            case 0:
                return now.day;
            case 1:
                return now.toldPlants();
            case 2:
                return now.deadBits();
            case 3:
                return now.toldPeople();
            case 4:
                return book.law.clauses;
            case 5:
                return tape.length;
            case 6:
                return now.x;
            default:
                return NONE;
        }
    }

    private int countPerson(int tens, int p) {
        if (!now.isPerson(p)) {
            return NONE;
        }
        switch (tens) {
            case 2:
                return now.people[p].tenths;
            case 3:
                return now.people[p].rule;
            case 4:
                return now.people[p].given;
            default:
                return NONE;
        }
    }

    private static boolean isWithin(int x, int least, int most) {
        return x >= least && x <= most;
    }

    private static boolean isPlace(int x, int many) {
        return x >= 0 && x < many;
    }

    private boolean areTold(int m) {
        return isWithin(m, 1, MOST_ASKED) && m <= now.told;
    }

    private boolean canReckon(int l, int n, int m) {
        return now.isAlive(l) && isWithin(n, 1, 9) && areTold(m) && n * (m + 1) <= MOST_DRAWS;
    }

    private long livesAsItIs(int l, int n, int m) {
        chances.take(now, l, m);
        return chances.lives(now, book, n);
    }

    /** The trial is a copy of what is now, but for this PLANT and the DAY, which are laid anew here. */
    private int lastsWith(int l, int cups) {
        Plant plant = trial.plants[l];
        plant.copy(now.plants[l]);
        plant.wetBy(cups);
        trial.day = now.day;
        for (int day = 0; day < MOST_DAYS; day++) {
            trial.endDay(book, l, false);
            trial.day++;
            if (plant.isDead()) {
                return day;
            }
        }
        return MOST_DAYS;
    }

    private void fillLasting(int most) {
        trial.copy(now);
        for (int l = 0; l < PLANTS; l++) {
            for (int cups = 0; cups <= most && cups <= MOST_CUPS; cups++) {
                lasting[l * (MOST_CUPS + 1) + cups] = now.isAlive(l) ? lastsWith(l, cups) : 0;
            }
        }
    }

    /** Rows are gone through from the least on, so that only a better one takes the place of an earlier one. */
    private int spreadBest(int cups) {
        int best = NONE;
        for (int a = 0; a <= cups; a++) {
            for (int b = 0; b <= cups - a; b++) {
                for (int c = 0; c <= cups - a - b; c++) {
                    int d = cups - a - b - c;
                    int least = least(least(least(MOST_DAYS, 0, a), 1, b), 2, c);
                    least = least(least, 3, d);
                    if (least > best) {
                        best = least;
                        shares[0] = a;
                        shares[1] = b;
                        shares[2] = c;
                        shares[3] = d;
                    }
                }
            }
        }
        return best;
    }

    private int least(int before, int l, int cups) {
        if (!now.isAlive(l)) {
            return cups == 0 ? before : NONE;
        }
        return Math.min(before, lasting[l * (MOST_CUPS + 1) + cups]);
    }

    private int theOne() {
        int best = NOT_SO;
        int most = 0;
        for (int p = 0; p < PEOPLE; p++) {
            if (now.people[p].given > most) {
                most = now.people[p].given;
                best = p;
            }
        }
        return best;
    }

    private int rotaOn(int l, int what) {
        trial.copy(now);
        int dead = roster.walk(trial, book, l);
        return what == 1 ? dead : trial.plants[l].wet;
    }

    private boolean nobodyGains(int row, int n) {
        for (int p = 0; p < n; p++) {
            if (worthOf(row ^ (1 << p), p) > worthOf(row, p)) {
                return false;
            }
        }
        return true;
    }

    private int worthOf(int row, int p) {
        if (row == 0) {
            return 0;
        }
        return book.worths[p] - (((row >> p) & 1) == 1 ? book.costs[p] : 0);
    }

    /** Who waters has b less c; who does not has b unless all others stay away: compared over 10 to the n - 1. */
    private int evenTenths(int n) {
        for (int tenths = TENTHS; tenths >= 0; tenths--) {
            long nobody = 1;
            for (int other = 1; other < n; other++) {
                nobody *= TENTHS - tenths;
            }
            boolean holds = true;
            for (int p = 0; p < n; p++) {
                holds &= book.worths[p] * nobody >= book.costs[p] * power(n - 1);
            }
            if (holds) {
                return tenths;
            }
        }
        return NOT_SO;
    }

    private boolean fits(int day, int more) {
        return Math.max(0, tape.at(day) + more) == tape.at(day + 1);
    }

    /** ODDS of each number of comers, of 10 to the m; false: a byte of the tape is above 10. */
    private boolean fillOdds(int m) {
        Arrays.fill(odds, 0);
        odds[0] = 1;
        for (int i = 0; i < m; i++) {
            int tenths = tape.at(i);
            if (!isWithin(tenths, 0, TENTHS)) {
                return false;
            }
            for (int many = odds.length - 1; many >= 0; many--) {
                long fewer = many > 0 ? odds[many - 1] : 0;
                odds[many] = odds[many] * (TENTHS - tenths) + fewer * tenths;
            }
        }
        return true;
    }

    private static long power(int n) {
        long all = 1;
        for (int i = 0; i < n; i++) {
            all *= TENTHS;
        }
        return all;
    }

    /** What stands above or below the line, without a common divisor; neither is negative, below is above 0. */
    private static long part(long above, long below, int what) {
        long a = below;
        long b = above;
        for (int i = 0; i < 200 && b != 0; i++) {
            long rest = a % b;
            a = b;
            b = rest;
        }
        if (a == 0) {
            return NONE;
        }
        return (what == 0 ? above : below) / a;
    }

    private static final class Tape {
        static final int ROOM = 220;

        final int[] bytes = new int[ROOM];
        int length;

        boolean hasRoom(int more) {
            return length + more <= ROOM;
        }

        void add(int number) {
            for (int shift = 24; shift >= 0 && length < ROOM; shift -= 8) {
                bytes[length] = (number >> shift) & 255;
                length++;
            }
        }

        int at(int i) {
            return i >= 0 && i < length && i < ROOM ? bytes[i] : NONE;
        }

        int number(int i) {
            int number = 0;
            for (int k = 0; k < 4; k++) {
                number = (number << 8) | (at(4 * i + k) & 255);
            }
            return number;
        }
    }

    private static final class Plant {
        boolean isTold;
        int pot;
        int wet;
        int bears;
        int dry;
        int drowned;
        boolean hasCard;
        int card = NONE;
        final int[] looks = new int[LOOKS];

        void tell(int newPot, int newWet, int newBears) {
            isTold = true;
            pot = newPot;
            wet = newWet;
            bears = newBears;
            dry = 0;
            drowned = 0;
            hasCard = false;
            card = NONE;
            Arrays.fill(looks, wet);
        }

        void copy(Plant other) {
            isTold = other.isTold;
            pot = other.pot;
            wet = other.wet;
            bears = other.bears;
            dry = other.dry;
            drowned = other.drowned;
            hasCard = other.hasCard;
            card = other.card;
            System.arraycopy(other.looks, 0, looks, 0, LOOKS);
        }

        boolean isDead() {
            return isTold && (dry >= bears || drowned >= bears);
        }

        /** Answers how much ran over. */
        int wetBy(int cups) {
            int all = wet + cups;
            wet = Math.min(all, pot);
            return all - wet;
        }

        void dryBy(int cups) {
            wet = Math.max(0, wet - cups);
            dry = wet == 0 ? dry + 1 : 0;
            drowned = wet == pot ? drowned + 1 : 0;
            System.arraycopy(looks, 0, looks, 1, LOOKS - 1);
            looks[0] = wet;
        }
    }

    private static final class Person {
        boolean isTold;
        int tenths;
        int rule;
        int given;

        void copy(Person other) {
            isTold = other.isTold;
            tenths = other.tenths;
            rule = other.rule;
            given = other.given;
        }
    }

    /** PLANTS, PEOPLE, CARDS, THE DAY and X: what is kept, undone and tried. */
    private static final class Landing {
        final Plant[] plants = new Plant[PLANTS];
        final Person[] people = new Person[PEOPLE];
        int told;
        int day;
        int x = 1;
        int given;
        int over;
        int sunny;

        Landing() {
            for (int l = 0; l < PLANTS; l++) {
                plants[l] = new Plant();
            }
            for (int p = 0; p < PEOPLE; p++) {
                people[p] = new Person();
            }
        }

        void copy(Landing other) {
            for (int l = 0; l < PLANTS; l++) {
                plants[l].copy(other.plants[l]);
            }
            for (int p = 0; p < PEOPLE; p++) {
                people[p].copy(other.people[p]);
            }
            told = other.told;
            day = other.day;
            x = other.x;
        }

        void tellPerson(int p, int tenths, int rule) {
            Person person = people[p];
            told += person.isTold ? 0 : 1;
            person.isTold = true;
            person.tenths = tenths;
            person.rule = rule;
            person.given = 0;
        }

        boolean isPlant(int l) {
            return isPlace(l, PLANTS) && plants[l].isTold;
        }

        boolean isAlive(int l) {
            return isPlant(l) && !plants[l].isDead();
        }

        boolean isPerson(int p) {
            return isPlace(p, PEOPLE) && people[p].isTold;
        }

        int toldPlants() {
            int bits = 0;
            for (int l = 0; l < PLANTS; l++) {
                bits |= plants[l].isTold ? 1 << l : 0;
            }
            return bits;
        }

        int deadBits() {
            int bits = 0;
            for (int l = 0; l < PLANTS; l++) {
                bits |= plants[l].isDead() ? 1 << l : 0;
            }
            return bits;
        }

        int toldPeople() {
            int bits = 0;
            for (int p = 0; p < PEOPLE; p++) {
                bits |= people[p].isTold ? 1 << p : 0;
            }
            return bits;
        }

        void fillLowest(int m, int[] who) {
            int many = 0;
            for (int p = 0; p < PEOPLE; p++) {
                if (people[p].isTold && many < m && many < who.length) {
                    who[many] = p;
                    many++;
                }
            }
        }

        int draw() {
            x = (25173 * x + 13849) & 65535;
            return x % 10;
        }

        /** Counts anew what is given, what runs over and what is sunny. */
        void goBy(Book book, int n) {
            given = 0;
            over = 0;
            sunny = 0;
            for (int i = 0; i < n && day < LAST_DAY; i++) {
                oneDay(book);
            }
        }

        private void oneDay(Book book) {
            for (int p = 0; p < PEOPLE; p++) {
                if (people[p].isTold && draw() < people[p].tenths) {
                    for (int l = 0; l < PLANTS; l++) {
                        giveTo(book, p, l);
                    }
                }
            }
            for (int l = 0; l < PLANTS; l++) {
                if (isAlive(l)) {
                    boolean isSunny = draw() < 5;
                    sunny += isSunny ? 1 : 0;
                    endDay(book, l, isSunny);
                }
            }
            day++;
        }

        void giveTo(Book book, int p, int l) {
            if (!isPerson(p) || !isAlive(l)) {
                return;
            }
            Plant plant = plants[l];
            int cups = book.gift(this, p, l);
            people[p].given += cups;
            given += cups;
            over += plant.wetBy(cups);
            if (cups > 0 && plant.hasCard) {
                plant.card = day;
            }
        }

        void endDay(Book book, int l, boolean isSunny) {
            int less = book.goes(this, l, 'e');
            if (isSunny) {
                less += book.goes(this, l, 'h');
            }
            plants[l].dryBy(less);
        }
    }

    /** A RULE or THE LAW, made into steps of a machine with a stack. */
    private static final class Text {
        static final int MOST_BYTES = 200;
        static final int MOST_CLAUSES = 14;
        static final int NUMBER = 0;
        static final int LETTER = 1;
        static final int PLUS = 2;
        static final int MINUS = 3;
        static final int TIMES = 4;
        static final int OVER = 5;
        static final int MODULO = 6;
        static final int LESS = 7;
        static final int MORE = 8;
        static final int SAME = 9;
        static final int NOT = 10;
        static final int AND = 11;
        static final int OR = 12;
        static final int STEP_BITS = 4;

        final int[] steps = new int[MOST_BYTES];
        int length;
        final char[] letters = new char[MOST_CLAUSES];
        final int[] howMany = new int[MOST_CLAUSES + 1];
        final int[] when = new int[MOST_CLAUSES];
        int clauses;

        void empty() {
            length = 0;
            clauses = 0;
        }

        void put(int step, int worth) {
            if (length < MOST_BYTES) {
                steps[length] = step | (worth << STEP_BITS);
                length++;
            }
        }

        /** Lets the jump at this place (NONE: there is none) go to what comes next. */
        void land(int jump) {
            if (jump >= 0 && jump < MOST_BYTES) {
                steps[jump] |= length << STEP_BITS;
            }
        }

        /** A jump that leads on to the next one of its kind, and the last one behind them all. */
        int jump(int before, int step) {
            land(before);
            put(step, 0);
            return length - 1;
        }

        void begin(char letter) {
            letters[clauses] = letter;
            howMany[clauses] = length;
        }

        void beginWhen() {
            when[clauses] = length;
        }

        void end() {
            clauses++;
            howMany[clauses] = length;
        }
    }

    /** Reads a TEXT from the tape: its FAULTS are told as numbers, the first ends the reading. */
    private static final class Reader {
        static final int MOST_OPEN = 6;
        static final int MOST_DIGITS = 5;

        private final Tape tape;
        private Text into = new Text();
        private int at;
        private int end;
        private int open;
        private int fault;

        Reader(Tape tape) {
            this.tape = tape;
        }

        /** How many CLAUSES, or the FAULT. */
        int read(int n, String kinds) {
            at = 0;
            end = n;
            open = 0;
            fault = 0;
            into.empty();
            for (int i = 0; i <= Text.MOST_CLAUSES; i++) {
                if (!clause(kinds)) {
                    return fault;
                }
                if (at >= end) {
                    return into.clauses;
                }
                if (!sign(';')) {
                    return fault;
                }
            }
            return fault;
        }

        /** Hands out what was read, and takes a TEXT that is not needed any more to read the next one into. */
        Text swap(Text old) {
            Text is = into;
            into = old;
            return is;
        }

        private int peek() {
            return at < end ? tape.at(at) : NONE;
        }

        private boolean fail(int number) {
            fault = -1000 * number - at;
            return false;
        }

        private boolean sign(char due) {
            if (peek() != due) {
                return fail(1);
            }
            at++;
            return true;
        }

        private boolean clause(String kinds) {
            int letter = peek();
            if (letter < 0 || kinds.indexOf((char) letter) < 0) {
                return fail(1);
            }
            if (into.clauses >= Text.MOST_CLAUSES) {
                return fail(4);
            }
            into.begin((char) letter);
            at++;
            if (!sum()) {
                return false;
            }
            if (peek() != '(') {
                return fail(1);
            }
            into.beginWhen();
            if (!bracket(')')) {
                return false;
            }
            into.end();
            return true;
        }

        private boolean enter() {
            if (open >= MOST_OPEN) {
                return fail(5);
            }
            open++;
            at++;
            return true;
        }

        /** From a ( or [ to its end. */
        private boolean bracket(char last) {
            if (!enter()) {
                return false;
            }
            boolean isRead = last == ')' ? condition() : sum();
            if (!isRead || !sign(last)) {
                return false;
            }
            open--;
            return true;
        }

        private boolean condition() {
            if (!conditionPart()) {
                return false;
            }
            int jump = NONE;
            for (int i = 0; i < Text.MOST_BYTES && peek() == '|'; i++) {
                at++;
                jump = into.jump(jump, Text.OR);
                if (!conditionPart()) {
                    return false;
                }
            }
            into.land(jump);
            return true;
        }

        private boolean conditionPart() {
            if (!piece()) {
                return false;
            }
            int jump = NONE;
            for (int i = 0; i < Text.MOST_BYTES && peek() == '&'; i++) {
                at++;
                jump = into.jump(jump, Text.AND);
                if (!piece()) {
                    return false;
                }
            }
            into.land(jump);
            return true;
        }

        private boolean piece() {
            if (peek() == '(') {
                return bracket(')');
            }
            if (peek() != '!') {
                return comparison();
            }
            if (!enter() || !piece()) {
                return false;
            }
            open--;
            into.put(Text.NOT, 0);
            return true;
        }

        private boolean comparison() {
            if (!sum()) {
                return false;
            }
            int step = stepOf(peek());
            if (step < Text.LESS) {
                return fail(1);
            }
            at++;
            if (!sum()) {
                return false;
            }
            into.put(step, 0);
            return true;
        }

        private boolean sum() {
            if (!term()) {
                return false;
            }
            for (int i = 0; i < Text.MOST_BYTES; i++) {
                int step = stepOf(peek());
                if (step != Text.PLUS && step != Text.MINUS) {
                    return true;
                }
                at++;
                if (!term()) {
                    return false;
                }
                into.put(step, 0);
            }
            return true;
        }

        private boolean term() {
            if (!factor()) {
                return false;
            }
            for (int i = 0; i < Text.MOST_BYTES; i++) {
                int step = stepOf(peek());
                if (step < Text.TIMES || step > Text.MODULO) {
                    return true;
                }
                at++;
                if (!factor()) {
                    return false;
                }
                into.put(step, 0);
            }
            return true;
        }

        private static int stepOf(int sign) {
            switch (sign) {
                case '+':
                    return Text.PLUS;
                case '-':
                    return Text.MINUS;
                case '*':
                    return Text.TIMES;
                case '/':
                    return Text.OVER;
                case '%':
                    return Text.MODULO;
                case '<':
                    return Text.LESS;
                case '>':
                    return Text.MORE;
                case '=':
                    return Text.SAME;
                default:
                    return NONE;
            }
        }

        private boolean factor() {
            int first = peek();
            if (first == '[') {
                return bracket(']');
            }
            if (isDigit(first)) {
                return number();
            }
            if (first < 0 || Asker.LETTERS.indexOf((char) first) < 0) {
                return fail(1);
            }
            into.put(Text.LETTER, first - 'a');
            at++;
            return true;
        }

        private static boolean isDigit(int sign) {
            return sign >= '0' && sign <= '9';
        }

        private boolean number() {
            int worth = 0;
            for (int digits = 0; digits < MOST_DIGITS && isDigit(peek()); digits++) {
                worth = worth * 10 + peek() - '0';
                at++;
            }
            if (isDigit(peek())) {
                return fail(2);
            }
            into.put(Text.NUMBER, worth);
            return true;
        }
    }

    /** Asks TEXTS by what the letters are worth now; a letter that is not told is 0. */
    private static final class Asker {
        static final String LETTERS = "dwlofsyzptnaq";
        static final int DEPTH = 40;

        private final int[] letters = new int[26];
        private final int[] stack = new int[DEPTH];
        private int top;
        private boolean isRefused;

        void put(char letter, int worth) {
            int i = letter - 'a';
            if (i >= 0 && i < letters.length) {
                letters[i] = worth;
            }
        }

        void onDay(int day, int told) {
            put('d', day);
            put('w', day % WEEK_DAYS);
            put('n', told);
        }

        void ofNothing() {
            Arrays.fill(letters, 0);
        }

        void of(Plant plant, int l, int day) {
            put('l', l);
            put('o', plant.pot);
            put('f', plant.wet);
            put('s', plant.looks[LOOKS - 1]);
            put('y', plant.dry);
            put('z', plant.drowned);
            put('a', plant.hasCard && plant.card != NONE ? day - plant.card : NEVER);
        }

        void by(int p, int tenths, int given) {
            put('p', p);
            put('t', tenths);
            put('q', given);
        }

        void byNobody() {
            by(0, 0, 0);
        }

        /** What the first CLAUSE of this letter whose C holds tells, within its bounds. */
        int ask(Text text, char letter, int most) {
            for (int i = 0; i < text.clauses && i < Text.MOST_CLAUSES; i++) {
                if (text.letters[i] == letter && run(text, text.when[i], text.howMany[i + 1]) != 0) {
                    int worth = run(text, text.howMany[i], text.when[i]);
                    return Math.max(0, Math.min(most, worth));
                }
            }
            return 0;
        }

        /** 0 when it is REFUSED: an E is 0 then, and a C does not hold. */
        private int run(Text text, int from, int to) {
            top = 0;
            isRefused = false;
            int at = from;
            for (int i = 0; i < Text.MOST_BYTES && at >= 0 && at < to && at < text.length && !isRefused; i++) {
                int step = text.steps[at] & ((1 << Text.STEP_BITS) - 1);
                int worth = text.steps[at] >> Text.STEP_BITS;
                at++;
                if (step == Text.NUMBER) {
                    push(worth);
                } else if (step == Text.LETTER) {
                    push(worth >= 0 && worth < letters.length ? letters[worth] : 0);
                } else if (step == Text.NOT) {
                    push(1 - pop());
                } else if (step == Text.AND || step == Text.OR) {
                    int held = pop();
                    if ((held == 0) == (step == Text.AND)) {
                        push(held);
                        at = worth;
                    }
                } else {
                    int right = pop();
                    push(reckon(step, pop(), right));
                }
            }
            return isRefused ? 0 : pop();
        }

        private void push(int worth) {
            if (top >= 0 && top < DEPTH) {
                stack[top] = worth;
                top++;
            }
        }

        private int pop() {
            if (top <= 0 || top > DEPTH) {
                return 0;
            }
            top--;
            return stack[top];
        }

        private int reckon(int step, int left, int right) {
            switch (step) {
                case Text.PLUS:
                    return left + right;
                case Text.MINUS:
                    return left - right;
                case Text.TIMES:
                    return left * right;
                case Text.LESS:
                    return left < right ? 1 : 0;
                case Text.MORE:
                    return left > right ? 1 : 0;
                case Text.SAME:
                    return left == right ? 1 : 0;
                default:
                    break;
            }
            if (right == 0) {
                isRefused = true;
                return 0;
            }
            return step == Text.OVER ? left / right : left % right;
        }
    }

    /** THE LAW and the RULES, and what they say. */
    private static final class Book {
        static final int MOST_COST = 99;
        static final int MOST_WORTH = 999;

        Text law = new Text();
        final Text[] rules = new Text[RULES];
        final int[] costs = new int[6];
        final int[] worths = new int[6];
        final Asker asker = new Asker();
        private final Reader reader;

        Book(Tape tape) {
            reader = new Reader(tape);
            for (int k = 0; k < RULES; k++) {
                rules[k] = new Text();
            }
        }

        /** The LAW, and the RULES, stay as they are where there is a FAULT. */
        int writeLaw(int n) {
            int answer = reader.read(n, "ehcb");
            if (answer > 0) {
                law = reader.swap(law);
            }
            return answer;
        }

        int writeRule(int k, int n) {
            int answer = reader.read(n, "g");
            if (answer > 0) {
                rules[k] = reader.swap(rules[k]);
            }
            return answer;
        }

        int gift(Landing on, int p, int l) {
            Person person = on.people[p];
            asker.onDay(on.day, on.told);
            asker.of(on.plants[l], l, on.day);
            asker.by(p, person.tenths, person.given);
            return asker.ask(rules[person.rule], 'g', MOST_GIVEN);
        }

        int goes(Landing on, int l, char letter) {
            asker.onDay(on.day, on.told);
            asker.of(on.plants[l], l, on.day);
            asker.byNobody();
            return asker.ask(law, letter, MOST_GIVEN);
        }

        void setPrices(Landing on, int n) {
            asker.ofNothing();
            asker.onDay(on.day, on.told);
            for (int p = 0; p < n && p < costs.length; p++) {
                asker.put('p', p);
                costs[p] = asker.ask(law, 'c', MOST_COST);
                worths[p] = asker.ask(law, 'b', MOST_WORTH);
            }
        }
    }

    /**
     * EXACTLY, of one PLANT. A state is how WET it is and its kind: 0, or 1 to 9 DRY DAYS on end, or 10 to 18 that
     * stand for 1 to 9 DROWNED ones (a PLANT never has both). Each state has a weight, of tens for each DRAW so far.
     */
    private static final class Chances {
        static final int WETS = MOST_CUPS + 1;
        static final int KINDS = 2 * MOST_BEARS + 1;
        static final int STATES = KINDS * WETS;

        private long[] weights = new long[STATES];
        private long[] next = new long[STATES];
        private int[] states = new int[STATES];
        private int[] nextStates = new int[STATES];
        private int held;
        private int nextHeld;
        final int[] who = new int[MOST_ASKED];
        final int[] tenths = new int[MOST_ASKED];
        private int many;
        private int plant;
        int pot;
        private int wet;
        private int kind;
        private int bears;
        private int under;
        private int fixed;
        long all;

        /** The PLANT and the lowest m PEOPLE as they are now. */
        void take(Landing on, int l, int m) {
            Plant told = on.plants[l];
            plant = l;
            pot = told.pot;
            wet = told.wet;
            bears = told.bears;
            kind = kindOf(told.dry, told.drowned);
            many = Math.min(m, MOST_ASKED);
            fixed = 0;
            on.fillLowest(many, who);
            for (int i = 0; i < many; i++) {
                tenths[i] = on.people[who[i]].tenths;
            }
        }

        void ask(int asked) {
            for (int i = 0; i < many; i++) {
                tenths[i] = i == asked ? TENTHS : Math.max(0, tenths[i] - 2);
            }
        }

        void onlyFirst(int some) {
            for (int i = some; i < many; i++) {
                tenths[i] = 0;
            }
        }

        void giveBelow(int x, int cups) {
            under = x;
            fixed = cups;
        }

        private static int kindOf(int dry, int drowned) {
            if (dry > 0) {
                return Math.min(dry, MOST_BEARS);
            }
            return drowned > 0 ? MOST_BEARS + Math.min(drowned, MOST_BEARS) : 0;
        }

        private static int stateOf(int kind, int wet) {
            return kind * WETS + wet;
        }

        private static int dryOf(int kind) {
            return kind <= MOST_BEARS ? kind : 0;
        }

        private static int drownedOf(int kind) {
            return kind > MOST_BEARS ? kind - MOST_BEARS : 0;
        }

        private boolean isDead(int kind) {
            return Math.max(dryOf(kind), drownedOf(kind)) >= bears;
        }

        /** How likely it lives behind n DAYS. */
        long lives(Landing on, Book book, int n) {
            int first = Math.min(wet, pot);
            clear();
            add(stateOf(kind, first), 1);
            goOn();
            all = 1;
            Asker asker = book.asker;
            asker.ofNothing();
            asker.put('l', plant);
            asker.put('o', pot);
            asker.put('s', first);
            asker.put('a', NEVER);
            for (int day = 0; day < n; day++) {
                asker.onDay(on.day + day, on.told);
                for (int i = 0; i < many; i++) {
                    Text rule = book.rules[on.people[who[i]].rule];
                    asker.by(who[i], tenths[i], 0);
                    comeBy(asker, rule, tenths[i]);
                }
                asker.byNobody();
                goDry(asker, book.law);
            }
            return living();
        }

        /** What was next is now; each step of this kind is one DRAW. */
        private void goOn() {
            for (int i = 0; i < held; i++) {
                weights[states[i]] = 0;
            }
            long[] weightsBefore = weights;
            weights = next;
            next = weightsBefore;
            int[] statesBefore = states;
            states = nextStates;
            nextStates = statesBefore;
            held = nextHeld;
            nextHeld = 0;
            all *= TENTHS;
        }

        /** Only states with a weight are listed: there are few of them at a time. */
        private void add(int state, long weight) {
            if (weight <= 0 || state < 0 || state >= STATES) {
                return;
            }
            if (next[state] == 0 && nextHeld < STATES) {
                nextStates[nextHeld] = state;
                nextHeld++;
            }
            next[state] += weight;
        }

        private void clear() {
            Arrays.fill(weights, 0);
            Arrays.fill(next, 0);
            held = 0;
            nextHeld = 0;
        }

        private void lookAt(Asker asker, int state) {
            asker.put('f', state % WETS);
            asker.put('y', dryOf(state / WETS));
            asker.put('z', drownedOf(state / WETS));
        }

        private void comeBy(Asker asker, Text rule, int chance) {
            for (int i = 0; i < held; i++) {
                int state = states[i];
                int comes = isDead(state / WETS) ? 0 : chance;
                add(state, weights[state] * (TENTHS - comes));
                if (comes > 0) {
                    lookAt(asker, state);
                    int f = state % WETS;
                    int more = Math.min(pot - f, gift(asker, rule, f));
                    add(state + more, weights[state] * comes);
                }
            }
            goOn();
        }

        private int gift(Asker asker, Text rule, int f) {
            if (fixed > 0) {
                return f < under ? fixed : 0;
            }
            return asker.ask(rule, 'g', MOST_GIVEN);
        }

        private void goDry(Asker asker, Text law) {
            for (int i = 0; i < held; i++) {
                int state = states[i];
                long weight = weights[state];
                if (isDead(state / WETS)) {
                    add(state, weight * TENTHS);
                } else {
                    lookAt(asker, state);
                    int less = asker.ask(law, 'e', MOST_GIVEN);
                    int lessInSun = less + asker.ask(law, 'h', MOST_GIVEN);
                    add(behind(state, less), weight * 5);
                    add(behind(state, lessInSun), weight * 5);
                }
            }
            goOn();
        }

        private int behind(int state, int less) {
            int then = Math.max(0, state % WETS - less);
            int dry = then == 0 ? dryOf(state / WETS) + 1 : 0;
            int drowned = then == pot ? drownedOf(state / WETS) + 1 : 0;
            return stateOf(kindOf(dry, drowned), then);
        }

        private long living() {
            long sum = 0;
            for (int i = 0; i < held; i++) {
                sum += isDead(states[i] / WETS) ? 0 : weights[states[i]];
            }
            return sum;
        }

        /** A dead PLANT is as WET as it was then, and counts here too. */
        long wetIs(int cups) {
            long sum = 0;
            for (int i = 0; i < held; i++) {
                sum += states[i] % WETS == cups ? weights[states[i]] : 0;
            }
            return sum;
        }
    }

    /** THE WEEK of a PLANT. */
    private static final class Week {
        private final Plant[] levels = new Plant[WEEK_DAYS];
        private final int[] who = new int[MOST_ASKED];
        private final int[] row = new int[WEEK_DAYS];
        private final int[] best = new int[WEEK_DAYS];
        private int many;
        private int plant;
        int comings;
        int wet;

        Week() {
            for (int day = 0; day < WEEK_DAYS; day++) {
                levels[day] = new Plant();
            }
        }

        /** False: by no row. */
        boolean find(Landing on, Book book, int l, int m) {
            plant = l;
            many = Math.min(m, MOST_ASKED);
            on.fillLowest(many, who);
            comings = WEEK_DAYS + 1;
            go(this, on, book, 0, 0);
            return comings <= WEEK_DAYS;
        }

        int comer(int day) {
            return best[day] < many ? who[best[day]] : NOT_EVEN_SO;
        }

        private void takeRow(int came, int wetThen) {
            comings = came;
            wet = wetThen;
            System.arraycopy(row, 0, best, 0, WEEK_DAYS);
        }

        /** Rows are gone through from the greatest on: of those with as many comings the last one found is the least. */
        private static void go(Week of, Landing on, Book book, int day, int came) {
            Plant is = on.plants[of.plant];
            if (day >= WEEK_DAYS) {
                of.takeRow(came, is.wet);
                return;
            }
            of.levels[day].copy(is);
            for (int place = of.many; place >= 0; place--) {
                boolean comes = place < of.many;
                int then = came + (comes ? 1 : 0);
                if (then > of.comings) {
                    continue;
                }
                int who = comes ? of.who[place] : 0;
                int given = on.people[who].given;
                if (comes) {
                    on.giveTo(book, who, of.plant);
                }
                on.endDay(book, of.plant, false);
                on.day++;
                of.row[day] = place;
                if (!is.isDead()) {
                    go(of, on, book, day + 1, then);
                }
                on.day--;
                is.copy(of.levels[day]);
                on.people[who].given = given;
            }
        }
    }

    /** A ROTA as it was read last: who comes on each DAY of it. */
    private static final class Rota {
        static final int MOST_BYTES = 90;
        static final int MOST_WEEKS = 12;
        static final int MOST_DAYS = MOST_WEEKS * WEEK_DAYS;

        private final int[] comers = new int[MOST_DAYS];
        int length;

        /** 0, or the FAULT. */
        int read(Tape tape, int n, Landing on) {
            length = 0;
            int weeks = 0;
            int inWeek = 0;
            int at = 0;
            for (int i = 0; i <= 2 * MOST_BYTES && at <= n; i++) {
                int sign = signAt(tape, at, n);
                if (inWeek == WEEK_DAYS && sign == NONE) {
                    return 0;
                }
                if (inWeek == WEEK_DAYS && sign == '/') {
                    weeks++;
                    inWeek = 0;
                    at++;
                    continue;
                }
                int times = sign >= '2' && sign <= '7' ? sign - '0' : 1;
                int number = dayFault(sign, times, weeks, inWeek);
                if (number == 0 && times > 1) {
                    at++;
                    sign = signAt(tape, at, n);
                    number = isComer(sign) ? 0 : 1;
                }
                if (number == 0 && sign != '.' && !on.isPerson(sign - 'a')) {
                    number = 7;
                }
                if (number != 0) {
                    return -1000 * number - at;
                }
                add(sign == '.' ? NONE : sign - 'a', times);
                inWeek += times;
                at++;
            }
            return 0;
        }

        private static int signAt(Tape tape, int at, int n) {
            return at < n ? tape.at(at) : NONE;
        }

        private static boolean isComer(int sign) {
            return sign == '.' || (sign >= 'a' && sign <= 'h');
        }

        /** What is wrong where a DAY begins; 0: nothing. */
        private static int dayFault(int sign, int times, int weeks, int inWeek) {
            if (times == 1 && !isComer(sign)) {
                return 1;
            }
            if (weeks >= MOST_WEEKS) {
                return 4;
            }
            return inWeek + times > WEEK_DAYS ? 6 : 0;
        }

        private void add(int comer, int times) {
            for (int i = 0; i < times && length < MOST_DAYS; i++) {
                comers[length] = comer;
                length++;
            }
        }

        int daysOf(int p) {
            int many = 0;
            for (int i = 0; i < length && i < MOST_DAYS; i++) {
                many += comers[i] == p ? 1 : 0;
            }
            return many;
        }

        /** The first DAY behind which the PLANT is dead; -2: it lives. */
        int walk(Landing on, Book book, int l) {
            for (int day = 0; day < length && day < MOST_DAYS; day++) {
                on.giveTo(book, comers[day], l);
                on.endDay(book, l, on.draw() < 5);
                on.day++;
                if (on.plants[l].isDead()) {
                    return day;
                }
            }
            return NOT_SO;
        }
    }
}

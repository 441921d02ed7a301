import java.util.Arrays;
import java.util.NoSuchElementException;

/** People wait for a train with more bags than they can carry: one has to stay with them always. */
public final class OneWithTheBags {
    public static final int NONE = -1;

    private static final int NOT_SO = -2;
    private static final int MISSING = -3;
    private static final int OTHERS = -100;
    private static final int TOO_BIG = -200;
    private static final int LAST_MINUTE = 99;
    private static final int MOST_SHIFT = 99;
    private static final int MOST_STRUCK = 3;
    private static final int MOST_LATE = 9;
    private static final int MOST_JOURNEYS = 50;
    private static final int PLAN_SIGNS = 72;
    private static final int AFTERNOON_SIGNS = 60;
    private static final int TURN_SIGNS = 40;

    private final Text text;
    private final Row told;
    private final Station hall;
    private final Plan trips;
    private final Plan spare;
    private final Laws laws;
    private final Laws spareLaws;
    private final Rule value;
    private final Offers offers;
    private final Past past;
    private final Sightings sightings;
    private final Bags bags;
    private final int[] act;

    public OneWithTheBags() {
        text = new Text();
        told = new Row();
        hall = new Station();
        trips = new Plan();
        spare = new Plan();
        laws = new Laws(hall, trips);
        spareLaws = new Laws(hall, spare);
        value = new Rule(hall, trips);
        offers = new Offers(hall, trips, laws, value);
        past = new Past();
        sightings = new Sightings(hall);
        bags = new Bags();
        act = new int[4];
    }

    // ---- the station

    public int sign(int v) {
        return text.put(v) ? text.length : NONE;
    }

    public boolean end(int n) {
        return text.cut(n);
    }

    public int station() {
        int lines = hall.read(text);
        if (lines > 0) {
            past.drop();
        }
        return lines;
    }

    public int wishes(int person) {
        text.begin(Text.MOST);
        if (!hall.hasPerson(person)) {
            return OTHERS;
        }
        for (int e = 0; e < hall.errands; e++) {
            if (text.digit(0) < 0) {
                return text.refusal();
            }
        }
        if (!text.atEnd()) {
            return text.refusal();
        }
        text.rewind();
        for (int e = 0; e < hall.errands; e++) {
            hall.setWish(person, e, text.digit(0));
        }
        return hall.errands;
    }

    public int rule() {
        return value.read(text);
    }

    public int plan() {
        text.begin(PLAN_SIGNS);
        spare.size = 0;
        if (!text.isEmpty() && !readTrips()) {
            return text.refusal();
        }
        past.push(trips);
        trips.copy(spare);
        return trips.size;
    }

    public int person(int p, int what) throws NoSuchElementException {
        if (!hall.hasPerson(p) || what < 0 || what > 5) {
            throw new NoSuchElementException();
        }
        laws.look();
        switch (what) {
            case 0:
                return hall.shy[p] ? 1 : 0;
            case 1:
                return trips.ofPerson(p);
            case 2:
                return hall.train - laws.atBench(p);
            case 3:
                return laws.atBench(p);
            case 4:
                return laws.longestAtBench(p);
            default:
                return value.sumOf(p);
        }
    }

    public int errand(int e, int what) throws NoSuchElementException {
        if (!hall.hasErrand(e) || what < 0 || what > 6) {
            throw new NoSuchElementException();
        }
        switch (what) {
            case 0:
                return hall.way[e];
            case 1:
                return hall.lasts[e];
            case 2:
                return hall.from[e];
            case 3:
                return hall.till[e];
            case 4:
                return hall.thing[e];
            case 5:
                return hall.sees[e] ? 1 : 0;
            default:
                return trips.ofErrand(e);
        }
    }

    public int trip(int i, int what) throws NoSuchElementException {
        if (!trips.has(i) || what < 0 || what > 5) {
            throw new NoSuchElementException();
        }
        switch (what) {
            case 0:
                return trips.who(i);
            case 1:
                return trips.what(i);
            case 2:
                return trips.first(i);
            case 3:
                return laws.back(i);
            case 4:
                return value.of(i);
            default:
                return laws.brokenBy(i);
        }
    }

    public int wish(int p, int e, int v) {
        if (!hall.hasPerson(p) || !hall.hasErrand(e) || v < 0 || v > 9) {
            return NONE;
        }
        int was = hall.getWish(p, e);
        hall.setWish(p, e, v);
        return was;
    }

    public int train(int v) {
        if (v < 1 || v > LAST_MINUTE) {
            return NONE;
        }
        int was = hall.train;
        hall.train = v;
        return was;
    }

    public int sheet(int kind, int n, int f, int step) {
        if (kind < 0 || kind > 3 || n > Station.MOST_ERRANDS) {
            return NONE;
        }
        if (kind == 3) {
            hall.setLasts(kind, 0, f, step);
            return MISSING;
        }
        if (n < 0) {
            return NOT_SO;
        }
        return hall.setLasts(kind, n, f, step);
    }

    // ---- trips

    public int may(int p, int e, int s) {
        if (!canBeAsked(p, e, s)) {
            return NONE;
        }
        laws.look();
        return laws.hindrance(p, e, s);
    }

    public int go(int p, int e, int s) {
        spare.copy(trips);
        return remember(putIn(p, e, s));
    }

    public int pair(int p, int q, int e, int s) {
        if (p == q || !canBeAsked(p, e, s) || !hall.hasPerson(q)) {
            return NONE;
        }
        if (trips.size + 2 > Plan.MOST) {
            return NOT_SO;
        }
        spare.copy(trips);
        spareLaws.look();
        trips.add(p, e, s);
        trips.add(q, e, s);
        laws.look();
        boolean lawful = laws.brokenBy(trips.size - 2) == 0 && laws.brokenBy(trips.size - 1) == 0;
        if (!lawful || laws.bare.hasMoreThan(spareLaws.bare)) {
            trips.copy(spare);
            return NOT_SO;
        }
        return remember(trips.size);
    }

    public int strike(int i) {
        spare.copy(trips);
        return remember(takeOut(i));
    }

    public int shift(int i, int n) {
        spare.copy(trips);
        return remember(moveBy(i, n));
    }

    public int afternoon() {
        text.begin(AFTERNOON_SIGNS);
        if (!text.isEmpty() && !readActs()) {
            return text.refusal();
        }
        spare.copy(trips);
        text.rewind();
        int done = 0;
        boolean refused = false;
        for (int k = 0; k < AFTERNOON_SIGNS && !text.atEnd() && !refused; k++) {
            readAct();
            text.take(';');
            refused = doAct() < 0;
            done += refused ? 0 : 1;
        }
        if (done > 0) {
            past.push(spare);
        }
        told.two(refused ? 1 : 0, value.sum());
        return done;
    }

    public int undo() {
        return past.pop(trips) ? past.size : NONE;
    }

    // ---- what a plan is

    public int alone() {
        laws.look();
        int first = NONE;
        int number = 0;
        int run = 0;
        int longest = 0;
        int from = NONE;
        for (int m = 0; m < hall.train; m++) {
            run = laws.bare.has(m) ? run + 1 : 0;
            if (run > 0) {
                number++;
                first = first == NONE ? m : first;
            }
            if (run > longest) {
                longest = run;
                from = m - run + 1;
            }
        }
        told.three(first, longest, from);
        return number;
    }

    public int bench(int m) {
        if (m < 0 || m >= hall.train) {
            return NONE;
        }
        laws.look();
        int seeing = 0;
        int onTheWay = 0;
        for (int p = 0; p < hall.people; p++) {
            seeing |= laws.seeing[p].has(m) ? 1 << p : 0;
            onTheWay |= laws.away[p].has(m) && !laws.busy[p].has(m) ? 1 << p : 0;
        }
        told.two(seeing, onTheWay);
        return laws.benchIn(m);
    }

    public int worth() {
        int broken = 0;
        int first = NONE;
        for (int i = 0; i < trips.size; i++) {
            if (laws.brokenBy(i) != 0) {
                broken++;
                first = first == NONE ? i : first;
            }
        }
        told.two(broken, first);
        return value.sum();
    }

    public int stays() {
        if (hall.people == 0) {
            return NOT_SO;
        }
        laws.look();
        int longest = 0;
        int shortest = 0;
        for (int p = 1; p < hall.people; p++) {
            longest = laws.atBench(p) > laws.atBench(longest) ? p : longest;
            shortest = laws.atBench(p) < laws.atBench(shortest) ? p : shortest;
        }
        told.three(laws.atBench(longest), shortest, laws.atBench(shortest));
        return longest;
    }

    public int stuck() {
        laws.look();
        int run = 0;
        int there = 0;
        int longest = 0;
        int who = NONE;
        int from = NONE;
        for (int m = 0; m < hall.train; m++) {
            int now = laws.benchIn(m);
            int before = now == there ? run : 0;
            run = Integer.bitCount(now) == 1 ? before + 1 : 0;
            there = now;
            if (run > longest) {
                longest = run;
                who = Integer.numberOfTrailingZeros(now);
                from = m - run + 1;
            }
        }
        told.two(who, from);
        return longest;
    }

    public int hands(int thing, int m) {
        if (thing < 1 || thing > 2 || m < 0 || m >= hall.train) {
            return NONE;
        }
        for (int i = 0; i < trips.size; i++) {
            boolean needed = hall.thing[trips.what(i)] == thing;
            if (needed && m >= trips.first(i) && m < laws.back(i)) {
                return trips.who(i);
            }
        }
        return NOT_SO;
    }

    // ---- trips to be put in

    public int earliest(int p, int e) {
        if (!hall.hasPerson(p) || !hall.hasErrand(e)) {
            return NONE;
        }
        laws.look();
        return tellMinute(e, offers.soonest(p, e));
    }

    public int latest(int p, int e) {
        if (!hall.hasPerson(p) || !hall.hasErrand(e)) {
            return NONE;
        }
        laws.look();
        return tellMinute(e, offers.last(p, e));
    }

    public int best(int p) {
        if (!hall.hasPerson(p)) {
            return NONE;
        }
        laws.look();
        int errand = offers.bestFor(p);
        if (errand < 0) {
            return NOT_SO;
        }
        told.two(offers.minute, offers.worth);
        return errand;
    }

    public int most(int n) {
        if (n < 0 || n > 2) {
            return NONE;
        }
        offers.search(n);
        told.clear();
        for (int k = 0; k < 3 * offers.foundTrips; k++) {
            told.add(offers.found[k]);
        }
        return offers.foundGain;
    }

    public int open() {
        laws.look();
        int possible = 0;
        int lost = 0;
        for (int e = 0; e < hall.errands; e++) {
            if (trips.ofErrand(e) > 0) {
                continue;
            }
            if (offers.someone(e)) {
                possible |= 1 << e;
            } else {
                lost |= 1 << e;
            }
        }
        told.one(lost);
        return possible;
    }

    public int mend() {
        for (int number = 0; number <= MOST_STRUCK; number++) {
            if (mendsBy(number)) {
                return number;
            }
        }
        return NOT_SO;
    }

    // ---- errands that can be broken off, turns

    public int parts() {
        text.begin(Text.MOST);
        int above = 0;
        int all = 0;
        for (int n = 1; n <= Station.MOST_PEOPLE; n++) {
            int wanted = text.number(2);
            if (wanted < 0) {
                return text.refusal();
            }
            above += Math.max(0, wanted - hall.train);
            all += Math.min(wanted, hall.train);
            if (text.atEnd()) {
                int wanting = above + Math.max(0, all - hall.train * (n - 1));
                told.one(wanting);
                return wanting == 0 ? 1 : 0;
            }
            if (!text.take(',')) {
                return text.refusal();
            }
        }
        return text.refusal();
    }

    public int turn() {
        text.begin(TURN_SIGNS);
        if (hall.people == 0) {
            return OTHERS;
        }
        if (text.isEmpty() || !readDays()) {
            return text.refusal();
        }
        int next = 0;
        int most = text.times('a');
        for (int p = 1; p < hall.people; p++) {
            int days = text.times('a' + p);
            int fewest = text.times('a' + next);
            boolean longer = text.lastTime('a' + p) < text.lastTime('a' + next);
            next = days < fewest || days == fewest && longer ? p : next;
            most = Math.max(most, days);
        }
        told.two(text.times('a' + next), most);
        return next;
    }

    // ---- lockers

    public int lockers(int v) {
        text.begin(Text.MOST);
        if (v < 1 || v > Bags.MOST_ROOM) {
            return OTHERS;
        }
        if (!bags.read(text)) {
            return text.refusal();
        }
        int fewest = bags.fewest(v);
        if (fewest < 0) {
            return TOO_BIG;
        }
        told.clear();
        for (int k = 0; k < bags.size; k++) {
            told.add(bags.locker[k]);
        }
        return fewest;
    }

    public int left(int n, int v) {
        text.begin(Text.MOST);
        if (n < 0 || n > 4 || v < 1 || v > Bags.MOST_ROOM) {
            return OTHERS;
        }
        if (!bags.read(text)) {
            return text.refusal();
        }
        int chosen = bags.mostInto(n, v);
        told.one(chosen);
        return bags.sizeOf((1 << bags.size) - 1) - bags.sizeOf(chosen);
    }

    // ---- late ones

    public int slack(int i) {
        return trips.has(i) ? laws.slackOf(i) : NONE;
    }

    public int tight() {
        int least = NONE;
        int most = NONE;
        laws.lookForSlack();
        for (int i = 0; i < trips.size; i++) {
            int slack = laws.slacks[i];
            if (slack >= 0) {
                least = least == NONE || slack < laws.slacks[least] ? i : least;
                most = most == NONE || slack > laws.slacks[most] ? i : most;
            }
        }
        if (least == NONE || most == NONE) {
            return NOT_SO;
        }
        told.three(laws.slacks[least], most, laws.slacks[most]);
        return least;
    }

    public int chance(int d, int p) {
        if (d < 1 || d > MOST_LATE || p < 0 || p > 10) {
            return NONE;
        }
        laws.lookForSlack();
        long upper = 1;
        long lower = 1;
        for (int i = 0; i < trips.size; i++) {
            if (laws.slacks[i] >= 0 && laws.slacks[i] < d) {
                upper *= 10 - p;
                lower *= 10;
            }
        }
        long common = greatestCommon(lower, upper);
        told.two(upper / common, lower / common);
        return 0;
    }

    // ---- sightings

    public int seen(int p, int e, int m) {
        return canBeAsked(p, e, m) && sightings.add(p, e, m) ? sightings.size : NONE;
    }

    public int forget() {
        int were = sightings.size;
        sightings.size = 0;
        return were;
    }

    public int fits() {
        int fitting = 0;
        for (int k = 0; k < sightings.size; k++) {
            fitting |= sightings.fitsPlan(k, trips) ? 1 << k : 0;
        }
        told.one(fitting);
        return Integer.bitCount(fitting);
    }

    public int since(int p, int e) {
        if (!hall.hasPerson(p) || !hall.hasErrand(e)) {
            return NONE;
        }
        int number = 0;
        int first = NONE;
        int last = NONE;
        for (int s = 0; s <= LAST_MINUTE; s++) {
            boolean inTime = hall.endsInTime(e, s) && hall.isOpen(e, s);
            if (inTime && sightings.allow(p, e, s)) {
                number++;
                first = first == NONE ? s : first;
                last = s;
            }
        }
        told.two(first, last);
        return number;
    }

    public int stayed(int m) {
        if (m < 0 || m > LAST_MINUTE) {
            return NONE;
        }
        int who = 0;
        for (int p = 0; p < hall.people; p++) {
            who |= sightings.allowBench(p, m) ? 1 << p : 0;
        }
        return who;
    }

    // ---- journeys

    public int journey(int seed, int n, int d) {
        if (n < 1 || n > MOST_JOURNEYS || d < 1 || d > MOST_LATE) {
            return NONE;
        }
        laws.lookForSlack();
        Arrays.fill(laws.misses, 0);
        int state = seed;
        int good = 0;
        for (int k = 0; k < n; k++) {
            boolean missed = false;
            for (int i = 0; i < trips.size; i++) {
                if (laws.slacks[i] < 0) {
                    continue;
                }
                state = state * 1103515245 + 12345;
                if ((state >>> 16) % d > laws.slacks[i]) {
                    laws.misses[i]++;
                    missed = true;
                }
            }
            good += missed ? 0 : 1;
        }
        tellMisses();
        return good;
    }

    // ---- kept

    public boolean keep(int i) {
        return past.store(i, trips, hall);
    }

    public boolean again(int i) {
        if (!past.fetch(i, trips, hall)) {
            return false;
        }
        past.drop();
        return true;
    }

    public int count(int what) {
        switch (what) {
            case 0:
                return hall.people;
            case 1:
                return hall.errands;
            case 2:
                return hall.train;
            case 3:
                return trips.size;
            case 4:
                return hall.shyOnes();
            case 5:
                return past.size;
            case 6:
                return sightings.size;
            case 7:
                return told.size;
            case 8:
                return text.length;
            default:
                return OTHERS;
        }
    }

    public long row(int i) throws NoSuchElementException {
        if (i < 0 || i >= told.size) {
            throw new NoSuchElementException();
        }
        return told.numbers[i];
    }

    // ---- what the calls share

    private boolean canBeAsked(int p, int e, int m) {
        return hall.hasPerson(p) && hall.hasErrand(e) && m >= 0 && m <= LAST_MINUTE;
    }

    /** Who calls this has put THE PLAN as it was ahead of the call into spare. */
    private int remember(int answer) {
        if (answer >= 0) {
            past.push(spare);
        }
        return answer;
    }

    private int putIn(int p, int e, int s) {
        if (!canBeAsked(p, e, s)) {
            return NONE;
        }
        laws.look();
        if (laws.hindrance(p, e, s) != 0) {
            return NOT_SO;
        }
        trips.add(p, e, s);
        return trips.size;
    }

    private int takeOut(int i) {
        if (!trips.has(i)) {
            return NONE;
        }
        trips.remove(i);
        return trips.size;
    }

    private int moveBy(int i, int n) {
        if (!trips.has(i) || n < -MOST_SHIFT || n > MOST_SHIFT) {
            return NONE;
        }
        int was = trips.first(i);
        int becomes = was + n;
        if (becomes < 0 || becomes > LAST_MINUTE) {
            return NOT_SO;
        }
        trips.begin(i, becomes);
        if (laws.brokenBy(i) != 0) {
            trips.begin(i, was);
            return NOT_SO;
        }
        return becomes;
    }

    private boolean readTrips() {
        for (int k = 0; k < Plan.MOST; k++) {
            int p = text.peek() - 'a';
            if (!hall.hasPerson(p)) {
                return false;
            }
            text.skip();
            int e = text.peek() - '0';
            if (!hall.hasErrand(e)) {
                return false;
            }
            text.skip();
            int s = text.take('@') ? text.number(2) : NONE;
            if (s < 0) {
                return false;
            }
            spare.add(p, e, s);
            if (text.atEnd()) {
                return !text.hasMore();
            }
            if (!text.take(';')) {
                return false;
            }
        }
        return false;
    }

    private boolean readActs() {
        for (int k = 0; k < AFTERNOON_SIGNS; k++) {
            if (!readAct()) {
                return false;
            }
            if (text.atEnd()) {
                return !text.hasMore();
            }
            if (!text.take(';')) {
                return false;
            }
        }
        return false;
    }

    private boolean readAct() {
        act[0] = text.peek();
        if (text.take('g')) {
            act[1] = text.letter();
            act[2] = act[1] < 0 ? NONE : text.digit(0);
            act[3] = act[2] >= 0 && text.take('@') ? text.number(2) : NONE;
            return act[3] >= 0;
        }
        if (text.take('x')) {
            act[1] = text.number(2);
            return act[1] >= 0;
        }
        return text.take('s') && readShift();
    }

    private boolean readShift() {
        act[1] = text.number(2);
        if (act[1] < 0) {
            return false;
        }
        boolean later = text.take('+');
        if (!later && !text.take('-')) {
            return false;
        }
        int n = text.number(2);
        act[2] = later ? n : -n;
        return n >= 0;
    }

    private int doAct() {
        switch (act[0]) {
            case 'g':
                return putIn(act[1], act[2], act[3]);
            case 'x':
                return takeOut(act[1]);
            default:
                return moveBy(act[1], act[2]);
        }
    }

    private boolean readDays() {
        for (int k = 0; k < TURN_SIGNS && !text.atEnd(); k++) {
            if (!hall.hasPerson(text.peek() - 'a')) {
                return false;
            }
            text.skip();
        }
        return !text.hasMore();
    }

    private int tellMinute(int e, int s) {
        if (s < 0) {
            return NOT_SO;
        }
        told.one(s + hall.length(e));
        return s;
    }

    private void tellMisses() {
        int worst = NONE;
        int often = 0;
        for (int i = 0; i < trips.size; i++) {
            if (laws.misses[i] > often) {
                worst = i;
                often = laws.misses[i];
            }
        }
        told.two(worst, often);
    }

    /** Rows are tried rising, so the first that mends is the least. */
    private boolean mendsBy(int number) {
        int size = trips.size;
        if (number > size) {
            return false;
        }
        for (int a = 0; a < (number > 0 ? size : 1); a++) {
            for (int b = a + 1; b < (number > 1 ? size : a + 2); b++) {
                for (int c = b + 1; c < (number > 2 ? size : b + 2); c++) {
                    int struck = number > 0 ? 1 << a : 0;
                    struck |= number > 1 ? 1 << b : 0;
                    struck |= number > 2 ? 1 << c : 0;
                    if (isSoundWithout(struck)) {
                        tellBits(struck);
                        return true;
                    }
                }
            }
        }
        return false;
    }

    private boolean isSoundWithout(int struck) {
        spare.copyWithout(trips, struck);
        spareLaws.look();
        if (!spareLaws.bare.isEmpty()) {
            return false;
        }
        for (int i = 0; i < spare.size; i++) {
            if (spareLaws.brokenBy(i) != 0) {
                return false;
            }
        }
        return true;
    }

    private void tellBits(int bits) {
        told.clear();
        for (int i = 0; i < Plan.MOST; i++) {
            if ((bits >> i & 1) != 0) {
                told.add(i);
            }
        }
    }

    private static long greatestCommon(long a, long b) {
        long x = a;
        long y = b;
        for (int k = 0; k < 200 && y != 0; k++) {
            long rest = x % y;
            x = y;
            y = rest;
        }
        return x == 0 ? 1 : x;
    }

    /** THE TEXT, and how far a call has read it. */
    private static final class Text {
        static final int MOST = 80;

        private final int[] signs = new int[MOST];
        int length;
        private int total;
        private int limit;
        private int at;

        boolean put(int v) {
            if (length + 4 > MOST) {
                return false;
            }
            for (int shift = 24; shift >= 0; shift -= 8) {
                signs[length] = v >>> shift & 255;
                length++;
            }
            return true;
        }

        boolean cut(int n) {
            if (n < 0 || n > length) {
                return false;
            }
            length = n;
            return true;
        }

        /** What is read is empty from here on, whatever comes of it; only the first signs are looked at. */
        void begin(int most) {
            total = length;
            length = 0;
            limit = Math.min(total, most);
            at = 0;
        }

        void rewind() {
            at = 0;
        }

        boolean isEmpty() {
            return total == 0;
        }

        boolean atEnd() {
            return at >= limit;
        }

        boolean hasMore() {
            return total > limit;
        }

        /** The answer for: the sign that comes next can't stand there. */
        int refusal() {
            return -1 - at;
        }

        int peek() {
            return at >= 0 && at < limit ? signs[at] : NONE;
        }

        void skip() {
            at += at < limit ? 1 : 0;
        }

        void stepBack() {
            at -= at > 0 ? 1 : 0;
        }

        boolean take(int sign) {
            if (peek() != sign) {
                return false;
            }
            skip();
            return true;
        }

        int digit(int least) {
            int d = at >= 0 && at < limit ? signs[at] - '0' : NONE;
            if (d < least || d > 9) {
                return NONE;
            }
            at++;
            return d;
        }

        int number(int mostDigits) {
            int n = digit(0);
            for (int k = 1; k < mostDigits && n >= 0; k++) {
                int d = digit(0);
                if (d < 0) {
                    return n;
                }
                n = 10 * n + d;
            }
            return n;
        }

        int letter() {
            int p = peek() - 'a';
            if (p < 0 || p >= Station.MOST_PEOPLE) {
                return NONE;
            }
            skip();
            return p;
        }

        int times(int sign) {
            int n = 0;
            for (int k = 0; k < limit; k++) {
                n += signs[k] == sign ? 1 : 0;
            }
            return n;
        }

        int lastTime(int sign) {
            int last = NONE;
            for (int k = 0; k < limit; k++) {
                last = signs[k] == sign ? k : last;
            }
            return last;
        }
    }

    /** The numbers told last. */
    private static final class Row {
        static final int MOST = 8;

        final long[] numbers = new long[MOST];
        int size;

        void clear() {
            size = 0;
        }

        void add(long n) {
            if (size < MOST) {
                numbers[size] = n;
                size++;
            }
        }

        void one(long a) {
            clear();
            add(a);
        }

        void two(long a, long b) {
            one(a);
            add(b);
        }

        void three(long a, long b, long c) {
            two(a, b);
            add(c);
        }
    }

    /** PEOPLE, ERRANDS and TRAIN. */
    private static final class Station {
        static final int MOST_PEOPLE = 6;
        static final int MOST_ERRANDS = 8;
        static final int MOST_SIGNS = 76;

        final boolean[] shy = new boolean[MOST_PEOPLE];
        final int[] way = new int[MOST_ERRANDS];
        final int[] lasts = new int[MOST_ERRANDS];
        final int[] from = new int[MOST_ERRANDS];
        final int[] till = new int[MOST_ERRANDS];
        final int[] thing = new int[MOST_ERRANDS];
        final boolean[] sees = new boolean[MOST_ERRANDS];
        int people;
        int errands;
        int train = 60;
        private final int[] wishes = new int[MOST_PEOPLE * MOST_ERRANDS];
        private int morePeople;
        private int moreErrands;

        Station() {
            Arrays.fill(wishes, 1);
        }

        boolean hasPerson(int p) {
            return p >= 0 && p < people;
        }

        boolean hasErrand(int e) {
            return e >= 0 && e < errands;
        }

        int getWish(int p, int e) {
            return hasPerson(p) && hasErrand(e) ? wishes[p * MOST_ERRANDS + e] : 0;
        }

        void setWish(int p, int e, int v) {
            if (hasPerson(p) && hasErrand(e)) {
                wishes[p * MOST_ERRANDS + e] = v;
            }
        }

        int shyOnes() {
            int bits = 0;
            for (int p = 0; p < people; p++) {
                bits |= shy[p] ? 1 << p : 0;
            }
            return bits;
        }

        int length(int e) {
            return 2 * way[e] + lasts[e];
        }

        boolean endsInTime(int e, int s) {
            return s + length(e) <= train;
        }

        boolean isOpen(int e, int s) {
            return s + way[e] >= from[e] && s + way[e] + lasts[e] <= till[e];
        }

        int setLasts(int kind, int n, int f, int step) {
            int sum = 0;
            for (int e = 0; e < errands; e++) {
                int entry = f + e * step;
                if (kind == 0) {
                    entry = (byte) entry;
                } else if (kind == 1) {
                    entry = (short) entry;
                }
                lasts[e] = e < n ? Math.max(1, Math.min(9, entry)) : 1;
                sum += lasts[e];
            }
            return sum;
        }

        /** LINES are written behind what there is, and are there only when all could be read. */
        int read(Text text) {
            text.begin(MOST_SIGNS);
            if (text.isEmpty()) {
                return 0;
            }
            morePeople = people;
            moreErrands = errands;
            for (int lines = 1; lines <= MOST_SIGNS; lines++) {
                if (!readLine(text)) {
                    return text.refusal();
                }
                if (text.atEnd() && !text.hasMore()) {
                    people = morePeople;
                    errands = moreErrands;
                    return lines;
                }
                if (!text.take(';')) {
                    return text.refusal();
                }
            }
            return text.refusal();
        }

        private boolean readLine(Text text) {
            if (morePeople < MOST_PEOPLE && text.take('p')) {
                shy[morePeople] = text.take('!');
                morePeople++;
                return true;
            }
            return moreErrands < MOST_ERRANDS && text.take('e') && readErrand(text, moreErrands);
        }

        private boolean readErrand(Text text, int e) {
            way[e] = text.digit(0);
            lasts[e] = way[e] < 0 ? NONE : text.digit(1);
            from[e] = lasts[e] >= 0 && text.take('@') ? text.number(2) : NONE;
            till[e] = from[e] >= 0 && text.take('-') ? text.number(2) : NONE;
            if (till[e] < 0) {
                return false;
            }
            if (till[e] < from[e]) {
                text.stepBack();
                return false;
            }
            thing[e] = text.take('+') ? 1 : text.take('*') ? 2 : 0;
            sees[e] = text.take('^');
            moreErrands++;
            return true;
        }
    }

    /** TRIPS in the order in which they were put in, each as one int, so that copies are cheap. */
    private static final class Plan {
        static final int MOST = 12;

        private final int[] trips = new int[MOST];
        int size;

        boolean has(int i) {
            return i >= 0 && i < size;
        }

        int who(int i) {
            return i >= 0 && i < size ? trips[i] & 7 : 0;
        }

        int what(int i) {
            return i >= 0 && i < size ? trips[i] >> 3 & 7 : 0;
        }

        int first(int i) {
            return i >= 0 && i < size ? trips[i] >> 6 : 0;
        }

        void add(int p, int e, int s) {
            if (size < MOST) {
                trips[size] = p | e << 3 | s << 6;
                size++;
            }
        }

        void removeLast() {
            size = Math.max(0, size - 1);
        }

        void remove(int i) {
            if (has(i)) {
                System.arraycopy(trips, i + 1, trips, i, size - i - 1);
                size--;
            }
        }

        void begin(int i, int s) {
            if (has(i)) {
                trips[i] = trips[i] & 63 | s << 6;
            }
        }

        void copy(Plan other) {
            System.arraycopy(other.trips, 0, trips, 0, other.size);
            size = other.size;
        }

        void copyWithout(Plan other, int struck) {
            size = 0;
            for (int i = 0; i < other.size; i++) {
                if ((struck >> i & 1) == 0) {
                    trips[size] = other.trips[i];
                    size++;
                }
            }
        }

        boolean goTogether(int i, int e, int s) {
            return has(i) && trips[i] >> 3 == (e | s << 3);
        }

        int ofPerson(int p) {
            int n = 0;
            for (int i = 0; i < size; i++) {
                n += who(i) == p ? 1 : 0;
            }
            return n;
        }

        int ofErrand(int e) {
            int n = 0;
            for (int i = 0; i < size; i++) {
                n += what(i) == e ? 1 : 0;
            }
            return n;
        }
    }

    /** A set of MINUTES 0 .. 127: no TRIP that can be told ends above 126. */
    private static final class Minutes {
        private long low;
        private long high;

        void clear() {
            low = 0;
            high = 0;
        }

        /** n is 1 .. 99. */
        void fillTo(int n) {
            low = n >= 64 ? -1L : (1L << n) - 1;
            high = n > 64 ? (1L << n - 64) - 1 : 0;
        }

        /** size is below 64. */
        void add(int from, int size) {
            long bits = (1L << size) - 1;
            if (from >= 64) {
                high |= bits << from - 64;
                return;
            }
            low |= bits << from;
            if (from > 0) {
                high |= bits >>> 64 - from;
            }
        }

        boolean has(int m) {
            return ((m >= 64 ? high >>> m - 64 : low >>> m) & 1) != 0;
        }

        /** MINUTE from is the lowest bit; size is below 64. */
        long part(int from, int size) {
            long bits = from >= 64 ? high >>> from - 64 : low >>> from;
            if (from > 0 && from < 64) {
                bits |= high << 64 - from;
            }
            return bits & (1L << size) - 1;
        }

        boolean isEmpty() {
            return (low | high) == 0;
        }

        boolean hasMoreThan(Minutes other) {
            return (low & ~other.low | high & ~other.high) != 0;
        }

        void join(Minutes other) {
            low |= other.low;
            high |= other.high;
        }

        void without(Minutes other) {
            low &= ~other.low;
            high &= ~other.high;
        }

        void keepOnly(Minutes other) {
            low &= other.low;
            high &= other.high;
        }
    }

    /** Who is where by a PLAN, and whether its TRIPS are LAWFUL; look() comes ahead of asking for MINUTES. */
    private static final class Laws {
        private final Station hall;
        private final Plan plan;
        final Minutes[] away = new Minutes[Station.MOST_PEOPLE];
        final Minutes[] busy = new Minutes[Station.MOST_PEOPLE];
        final Minutes[] seeing = new Minutes[Station.MOST_PEOPLE];
        final Minutes bare = new Minutes();
        private final Minutes[] needed = new Minutes[Station.MOST_PEOPLE];
        private final Minutes overseen = new Minutes();
        final int[] slacks = new int[Plan.MOST];
        final int[] misses = new int[Plan.MOST];

        Laws(Station hall, Plan plan) {
            this.hall = hall;
            this.plan = plan;
            for (int p = 0; p < Station.MOST_PEOPLE; p++) {
                away[p] = new Minutes();
                busy[p] = new Minutes();
                seeing[p] = new Minutes();
                needed[p] = new Minutes();
            }
        }

        void look() {
            overseen.clear();
            for (int p = 0; p < hall.people; p++) {
                away[p].clear();
                busy[p].clear();
                seeing[p].clear();
            }
            for (int i = 0; i < plan.size; i++) {
                int p = plan.who(i);
                int e = plan.what(i);
                int s = plan.first(i);
                away[p].add(s, hall.length(e));
                busy[p].add(s + hall.way[e], hall.lasts[e]);
                if (hall.sees[e]) {
                    seeing[p].add(s + hall.way[e], hall.lasts[e]);
                    overseen.join(seeing[p]);
                }
            }
            lookAtBags();
        }

        private void lookAtBags() {
            bare.fillTo(hall.train);
            bare.without(overseen);
            for (int p = 0; p < hall.people; p++) {
                needed[p].fillTo(hall.train);
                needed[p].without(overseen);
                for (int q = 0; q < hall.people; q++) {
                    if (q != p) {
                        needed[p].keepOnly(away[q]);
                    }
                }
                bare.keepOnly(away[p]);
            }
        }

        int benchIn(int m) {
            int bits = 0;
            for (int p = 0; p < hall.people; p++) {
                bits |= away[p].has(m) ? 0 : 1 << p;
            }
            return bits;
        }

        int atBench(int p) {
            int n = 0;
            for (int m = 0; m < hall.train; m++) {
                n += away[p].has(m) ? 0 : 1;
            }
            return n;
        }

        int longestAtBench(int p) {
            int run = 0;
            int longest = 0;
            for (int m = 0; m < hall.train; m++) {
                run = away[p].has(m) ? 0 : run + 1;
                longest = Math.max(longest, run);
            }
            return longest;
        }

        int back(int i) {
            return plan.first(i) + hall.length(plan.what(i));
        }

        /** The first of (1) .. (5) that is not so for TRIP i, or 0. */
        int brokenBy(int i) {
            int p = plan.who(i);
            int e = plan.what(i);
            int s = plan.first(i);
            if (!hall.endsInTime(e, s)) {
                return 1;
            }
            if (!hall.isOpen(e, s)) {
                return 2;
            }
            if (isAwayByAnother(i)) {
                return 3;
            }
            if (thingIsOut(e, s)) {
                return 4;
            }
            return hall.shy[p] && !hasCompany(p, e, s) ? 5 : 0;
        }

        /** What may() tells. */
        int hindrance(int p, int e, int s) {
            if (!hall.endsInTime(e, s)) {
                return 1;
            }
            if (!hall.isOpen(e, s)) {
                return 2;
            }
            if (away[p].part(s, hall.length(e)) != 0) {
                return 3;
            }
            if (thingIsOut(e, s)) {
                return 4;
            }
            if (hall.shy[p] && !hasCompany(p, e, s)) {
                return 5;
            }
            if (wouldBeMissed(p, e, s)) {
                return 6;
            }
            return plan.size >= Plan.MOST ? 7 : 0;
        }

        /** Only asked for MINUTES in which p is at the bench, so the bags are WATCHED there now. */
        private boolean wouldBeMissed(int p, int e, int s) {
            long missing = needed[p].part(s, hall.length(e));
            if (hall.sees[e]) {
                missing &= ~((1L << hall.lasts[e]) - 1 << hall.way[e]);
            }
            return missing != 0;
        }

        private boolean isAwayByAnother(int i) {
            for (int j = 0; j < plan.size; j++) {
                boolean another = j != i && plan.who(j) == plan.who(i);
                if (another && plan.first(j) < back(i) && plan.first(i) < back(j)) {
                    return true;
                }
            }
            return false;
        }

        /** The TRIP itself, if it is in the PLAN, goes together with itself and so does not count. */
        private boolean thingIsOut(int e, int s) {
            if (hall.thing[e] == 0) {
                return false;
            }
            int back = s + hall.length(e);
            for (int j = 0; j < plan.size; j++) {
                boolean sameThing = hall.thing[plan.what(j)] == hall.thing[e];
                boolean overlap = plan.first(j) < back && s < back(j);
                if (sameThing && overlap && !plan.goTogether(j, e, s)) {
                    return true;
                }
            }
            return false;
        }

        private boolean hasCompany(int p, int e, int s) {
            for (int j = 0; j < plan.size; j++) {
                if (plan.who(j) != p && plan.goTogether(j, e, s)) {
                    return true;
                }
            }
            return false;
        }

        int slackOf(int i) {
            if (brokenBy(i) != 0) {
                return NONE;
            }
            int back = back(i);
            int next = hall.train;
            for (int j = 0; j < plan.size; j++) {
                boolean later = j != i && plan.who(j) == plan.who(i) && plan.first(j) >= back;
                next = later ? Math.min(next, plan.first(j)) : next;
            }
            return next - back;
        }

        void lookForSlack() {
            for (int i = 0; i < plan.size; i++) {
                slacks[i] = slackOf(i);
            }
        }
    }

    /** THE RULE, kept with each operator behind what it binds, so that WORTHS are quick. */
    private static final class Rule {
        private static final int MOST_SIGNS = 40;
        private static final int MOST_NESTED = 4;
        private static final int MOST_WORTH = 999;
        private static final int NEGATE = '~';
        private static final String FACTS = "wasnieyz";

        private final Station hall;
        private final Plan plan;
        private final int[] code = new int[MOST_SIGNS];
        private final int[] draft = new int[MOST_SIGNS];
        private final int[] stack = new int[MOST_SIGNS + 1];
        private final int[] facts = new int[8];
        private int size;
        private int drafted;

        Rule(Station hall, Plan plan) {
            this.hall = hall;
            this.plan = plan;
        }

        int read(Text text) {
            text.begin(MOST_SIGNS);
            drafted = 0;
            if (!text.isEmpty() && (!readComparison(text, 0) || !text.atEnd() || text.hasMore())) {
                return text.refusal();
            }
            System.arraycopy(draft, 0, code, 0, drafted);
            size = drafted;
            return 0;
        }

        private void emit(int step) {
            if (drafted < MOST_SIGNS) {
                draft[drafted] = step;
                drafted++;
            }
        }

        /** Numbers are 0 or more, so what is no number is told by one below 0. */
        private static int operator(int sign) {
            return -100 - sign;
        }

        private boolean readComparison(Text text, int depth) {
            if (!readSum(text, depth)) {
                return false;
            }
            int sign = text.peek();
            if (sign != '<' && sign != '>' && sign != '=') {
                return true;
            }
            text.skip();
            if (!readSum(text, depth)) {
                return false;
            }
            emit(operator(sign));
            return true;
        }

        private boolean readSum(Text text, int depth) {
            if (!readProduct(text, depth)) {
                return false;
            }
            for (int k = 0; k < MOST_SIGNS; k++) {
                int sign = text.peek();
                if (sign != '+' && sign != '-') {
                    return true;
                }
                text.skip();
                if (!readProduct(text, depth)) {
                    return false;
                }
                emit(operator(sign));
            }
            return true;
        }

        private boolean readProduct(Text text, int depth) {
            if (!readThing(text, depth)) {
                return false;
            }
            for (int k = 0; k < MOST_SIGNS; k++) {
                int sign = text.peek();
                if (sign != '*' && sign != '/') {
                    return true;
                }
                text.skip();
                if (!readThing(text, depth)) {
                    return false;
                }
                emit(operator(sign));
            }
            return true;
        }

        private boolean readThing(Text text, int depth) {
            boolean negative = false;
            for (int k = 0; k < MOST_SIGNS && text.take('-'); k++) {
                negative = !negative;
            }
            int number = text.number(3);
            if (number >= 0) {
                emit(number);
            } else if (depth < MOST_NESTED && text.take('(')) {
                if (!readComparison(text, depth + 1) || !text.take(')')) {
                    return false;
                }
            } else {
                int fact = text.atEnd() ? NONE : FACTS.indexOf((char) text.peek());
                if (fact < 0) {
                    return false;
                }
                text.skip();
                emit(-1 - fact);
            }
            if (negative) {
                emit(operator(NEGATE));
            }
            return true;
        }

        int of(int i) {
            int p = plan.who(i);
            int e = plan.what(i);
            int s = plan.first(i);
            if (size == 0) {
                return hall.getWish(p, e);
            }
            // the TRIP itself goes together with itself, and does not count
            int company = -1;
            int earlier = 0;
            for (int j = 0; j < plan.size; j++) {
                company += plan.goTogether(j, e, s) ? 1 : 0;
                earlier = j < i && plan.who(j) == p && plan.what(j) == e ? 1 : earlier;
            }
            facts[0] = hall.getWish(p, e);
            facts[1] = hall.length(e);
            facts[2] = s;
            facts[3] = company;
            facts[4] = p;
            facts[5] = e;
            facts[6] = hall.shy[p] ? 1 : 0;
            facts[7] = earlier;
            return Math.max(-MOST_WORTH, Math.min(MOST_WORTH, evaluate()));
        }

        private int evaluate() {
            int top = 0;
            for (int k = 0; k < size; k++) {
                int step = code[k];
                if (step >= -8) {
                    stack[top] = step >= 0 ? step : facts[-1 - step];
                    top++;
                } else if (step == operator(NEGATE) && top >= 1) {
                    stack[top - 1] = -stack[top - 1];
                } else if (top >= 2) {
                    top--;
                    stack[top - 1] = combine(-100 - step, stack[top - 1], stack[top]);
                }
            }
            return top > 0 ? stack[0] : 0;
        }

        private static int combine(int sign, int a, int b) {
            switch (sign) {
                case '+':
                    return a + b;
                case '-':
                    return a - b;
                case '*':
                    return a * b;
                case '/':
                    return b == 0 ? 0 : a / b;
                case '<':
                    return a < b ? 1 : 0;
                case '>':
                    return a > b ? 1 : 0;
                default:
                    return a == b ? 1 : 0;
            }
        }

        int sum() {
            int sum = 0;
            for (int i = 0; i < plan.size; i++) {
                sum += of(i);
            }
            return sum;
        }

        int sumOf(int p) {
            int sum = 0;
            for (int i = 0; i < plan.size; i++) {
                sum += plan.who(i) == p ? of(i) : 0;
            }
            return sum;
        }

        int sumTogether(int e, int s) {
            int sum = 0;
            for (int i = 0; i < plan.size; i++) {
                sum += plan.goTogether(i, e, s) ? of(i) : 0;
            }
            return sum;
        }
    }

    /** TRIPS that could be put in; but for search(), the laws have looked ahead of each question. */
    private static final class Offers {
        private final Station hall;
        private final Plan plan;
        private final Laws laws;
        private final Rule value;
        final int[] found = new int[6];
        private final int[] tried = new int[6];
        int foundTrips;
        int foundGain;
        int minute;
        int worth;

        Offers(Station hall, Plan plan, Laws laws, Rule value) {
            this.hall = hall;
            this.plan = plan;
            this.laws = laws;
            this.value = value;
        }

        /** Ahead of this it is not open yet. */
        private int firstOpen(int e) {
            return Math.max(0, hall.from[e] - hall.way[e]);
        }

        private int lastOpen(int e) {
            return Math.min(LAST_MINUTE, hall.till[e] - hall.way[e] - hall.lasts[e]);
        }

        int soonest(int p, int e) {
            for (int s = firstOpen(e); s <= lastOpen(e); s++) {
                if (laws.hindrance(p, e, s) == 0) {
                    return s;
                }
            }
            return NONE;
        }

        int last(int p, int e) {
            for (int s = lastOpen(e); s >= firstOpen(e); s--) {
                if (laws.hindrance(p, e, s) == 0) {
                    return s;
                }
            }
            return NONE;
        }

        boolean someone(int e) {
            for (int p = 0; p < hall.people; p++) {
                if (soonest(p, e) >= 0) {
                    return true;
                }
            }
            return false;
        }

        int bestFor(int p) {
            int best = NONE;
            for (int e = 0; e < hall.errands; e++) {
                int s = soonest(p, e);
                if (s < 0) {
                    continue;
                }
                plan.add(p, e, s);
                int w = value.of(plan.size - 1);
                plan.removeLast();
                boolean sooner = best >= 0 && w == worth && s + hall.length(e) < minute + hall.length(best);
                if (best < 0 || w > worth || sooner) {
                    best = e;
                    minute = s;
                    worth = w;
                }
            }
            return best;
        }

        /** Fewer TRIPS are tried first and rows rising, so only what is better takes the place. */
        void search(int most) {
            foundTrips = 0;
            foundGain = 0;
            for (int depth = 1; depth <= most; depth++) {
                for (int p = 0; p < hall.people; p++) {
                    for (int e = 0; e < hall.errands; e++) {
                        laws.look();
                        int s = soonest(p, e);
                        if (s < 0) {
                            continue;
                        }
                        int gain = put(p, e, s, 0);
                        if (depth == 1) {
                            take(gain, 1);
                        } else {
                            trySecond(gain);
                        }
                        plan.removeLast();
                    }
                }
            }
        }

        private void trySecond(int firstGain) {
            laws.look();
            for (int p = 0; p < hall.people; p++) {
                for (int e = 0; e < hall.errands; e++) {
                    int s = soonest(p, e);
                    if (s >= 0) {
                        take(firstGain + put(p, e, s, 3), 2);
                        plan.removeLast();
                    }
                }
            }
        }

        /** A TRIP that comes last changes the WORTHS of those alone that go together with it. */
        private int put(int p, int e, int s, int place) {
            int without = value.sumTogether(e, s);
            plan.add(p, e, s);
            tried[place] = p;
            tried[place + 1] = e;
            tried[place + 2] = s;
            return value.sumTogether(e, s) - without;
        }

        private void take(int gain, int number) {
            if (gain > foundGain) {
                foundGain = gain;
                foundTrips = number;
                System.arraycopy(tried, 0, found, 0, 6);
            }
        }
    }

    /** PLANS as they were: those that can be undone, and those kept under a number. */
    private static final class Past {
        private static final int MOST = 15;
        private static final int PLACES = 3;

        private final Plan[] plans = new Plan[MOST];
        private final Plan[] stored = new Plan[PLACES];
        private final int[] people = new int[PLACES];
        private final int[] errands = new int[PLACES];
        int size;

        Past() {
            for (int k = 0; k < MOST; k++) {
                plans[k] = new Plan();
            }
            for (int k = 0; k < PLACES; k++) {
                stored[k] = new Plan();
                people[k] = NONE;
            }
        }

        void push(Plan plan) {
            if (size >= MOST) {
                forgetOldest();
            }
            plans[size].copy(plan);
            size++;
        }

        private void forgetOldest() {
            Plan oldest = plans[0];
            for (int k = 1; k < MOST; k++) {
                plans[k - 1] = plans[k];
            }
            plans[MOST - 1] = oldest;
            size = MOST - 1;
        }

        boolean pop(Plan plan) {
            if (size <= 0) {
                return false;
            }
            size--;
            plan.copy(plans[size]);
            return true;
        }

        void drop() {
            size = 0;
        }

        boolean store(int i, Plan plan, Station hall) {
            if (i < 0 || i >= PLACES) {
                return false;
            }
            stored[i].copy(plan);
            people[i] = hall.people;
            errands[i] = hall.errands;
            return true;
        }

        boolean fetch(int i, Plan plan, Station hall) {
            if (i < 0 || i >= PLACES || people[i] != hall.people || errands[i] != hall.errands) {
                return false;
            }
            plan.copy(stored[i]);
            return true;
        }
    }

    /** Who was seen at which ERRAND in which MINUTE. */
    private static final class Sightings {
        private static final int MOST = 12;

        private final Station hall;
        private final int[] who = new int[MOST];
        private final int[] what = new int[MOST];
        private final int[] when = new int[MOST];
        int size;

        Sightings(Station hall) {
            this.hall = hall;
        }

        boolean add(int p, int e, int m) {
            if (size >= MOST) {
                return false;
            }
            who[size] = p;
            what[size] = e;
            when[size] = m;
            size++;
            return true;
        }

        private boolean isThere(int e, int s, int m) {
            int from = s + hall.way[e];
            return m >= from && m < from + hall.lasts[e];
        }

        boolean fitsPlan(int k, Plan plan) {
            if (k < 0 || k >= size) {
                return false;
            }
            for (int i = 0; i < plan.size; i++) {
                boolean same = plan.who(i) == who[k] && plan.what(i) == what[k];
                if (same && isThere(what[k], plan.first(i), when[k])) {
                    return true;
                }
            }
            return false;
        }

        boolean allow(int p, int e, int s) {
            for (int k = 0; k < size; k++) {
                if (who[k] != p) {
                    continue;
                }
                boolean away = when[k] >= s && when[k] < s + hall.length(e);
                if (what[k] == e ? !isThere(e, s, when[k]) : away) {
                    return false;
                }
            }
            return true;
        }

        boolean allowBench(int p, int m) {
            for (int k = 0; k < size; k++) {
                if (who[k] == p && Math.abs(when[k] - m) <= hall.way[what[k]]) {
                    return false;
                }
            }
            return true;
        }
    }

    /** BAGS and the lockers that they are put into. */
    private static final class Bags {
        static final int MOST_ROOM = 20;
        private static final int MOST = 8;
        private static final int NO_WAY = 1 << 20;

        final int[] locker = new int[MOST];
        int size;
        private final int[] sizes = new int[MOST];
        private final int[] room = new int[MOST];
        private final int[] needs = new int[1 << MOST];

        boolean read(Text text) {
            size = 0;
            for (int k = 0; k < MOST && (k == 0 || !text.atEnd()); k++) {
                sizes[k] = text.digit(1);
                if (sizes[k] < 0) {
                    return false;
                }
                size++;
            }
            return text.atEnd();
        }

        int sizeOf(int set) {
            int sum = 0;
            for (int k = 0; k < size; k++) {
                sum += (set >> k & 1) != 0 ? sizes[k] : 0;
            }
            return sum;
        }

        /** For each set of BAGS: 32 times the fewest lockers, and the least that the last of these holds then. */
        private void weigh(int v) {
            needs[0] = v;
            for (int set = 1; set < 1 << size; set++) {
                needs[set] = NO_WAY;
                for (int k = 0; k < size; k++) {
                    if ((set >> k & 1) != 0 && sizes[k] <= v) {
                        needs[set] = Math.min(needs[set], withOneMore(needs[set ^ 1 << k], sizes[k], v));
                    }
                }
            }
        }

        private static int withOneMore(int need, int bag, int v) {
            if (need >= NO_WAY) {
                return NO_WAY;
            }
            boolean goesIn = (need & 31) + bag <= v;
            return goesIn ? need + bag : (need & ~31) + 32 + bag;
        }

        /** NONE, if a BAG is too big. */
        int fewest(int v) {
            weigh(v);
            int need = needs[(1 << size) - 1];
            if (need >= NO_WAY) {
                return NONE;
            }
            Arrays.fill(room, v);
            place(0, 0, need >> 5);
            return need >> 5;
        }

        /** Lower lockers are tried first, so the first way that is found is the least row. */
        private boolean place(int bag, int used, int most) {
            if (bag >= size) {
                return true;
            }
            for (int k = 0; k < MOST && k <= used && k < most; k++) {
                if (room[k] < sizes[bag]) {
                    continue;
                }
                room[k] -= sizes[bag];
                locker[bag] = k;
                if (place(bag + 1, Math.max(used, k + 1), most)) {
                    return true;
                }
                room[k] += sizes[bag];
            }
            return false;
        }

        int mostInto(int lockers, int v) {
            weigh(v);
            int best = 0;
            for (int set = 1; set < 1 << size; set++) {
                if (needs[set] >> 5 > lockers) {
                    continue;
                }
                int more = sizeOf(set) - sizeOf(best);
                if (more > 0 || more == 0 && Integer.bitCount(set) < Integer.bitCount(best)) {
                    best = set;
                }
            }
            return best;
        }
    }
}

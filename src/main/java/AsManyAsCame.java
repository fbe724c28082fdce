/** A walled town whose south gate lets out each day as many as came in by the north gate the day before. */
public final class AsManyAsCame {
    public static final int NONE = -1000000, BAD = -1000001, STATE = -1000002, FULL = -1000003;

    private static final int FINDINGS = -1000010, FAULTS = -1000100;
    private static final int NO_ROW = 1, NO_PLACE = 2, NO_SUCH_KIND = 3, NO_SIZE = 4, TWO_LANES = 5;

    private static final int MOST_ROWS = 8, MOST_ITEMS = 40, MOST_BYTES = 500, MOST_IMAGES = 2;
    private static final int MOST_PEOPLE = 60, MOST_TOLD = 24;
    private static final int MOST_COME = 20, MOST_FORETOLD = 20, MOST_ODDS_DAYS = 8, MOST_SPREAD = 9;
    private static final int MOST_COUNTED_DAYS = 13, MOST_COUNTED = 99;

    private static final int BY_LIST = 0, BY_RANK = 1, BY_KIND = 2;
    private static final int PERSON = 0, PILGRIM = 1, HIRED = 2, CALLED = 3, BORN = 4, SMUGGLED = 5;
    /** Of each KIND the one that it is, too; none above PERSON. */
    private static final int[] ABOVE = {-1, PERSON, PILGRIM, PILGRIM, PERSON, BORN};
    /** Of each KIND its turn by the law 'kind'. */
    private static final int[] TURNS = {5, 1, 2, 0, 4, 3};

    private final Row[] rows = new Row[MOST_ROWS];
    private final Tape tape = new Tape();
    private final Town town = new Town();
    private final Town draft = new Town();
    private final Town[] images = new Town[MOST_IMAGES];
    private final Asked asked = new Asked();
    private final Numbers ways = new Numbers(MOST_COME * MOST_ODDS_DAYS + 1);
    private int latestFault = 0;
    private int latestFinding = 0;

    public AsManyAsCame() {
        for (int i = 0; i < rows.length; i++) {
            rows[i] = new Row();
        }
        for (int i = 0; i < images.length; i++) {
            images[i] = new Town();
        }
    }

    // ---- rows

    public int row(int row, int lane, int n) {
        Row made = rowAt(row);
        if (made == null || outside(lane, 0, 2) || n > MOST_ITEMS) {
            return BAD;
        }
        if (n < 0) {
            return found(NO_SIZE);
        }
        made.begin(lane, n);
        return answered(n);
    }

    public int set(int row, int i, int v) {
        Row at = rowAt(row);
        if (at == null) {
            return BAD;
        }
        if (!at.there) {
            return found(NO_ROW);
        }
        if (outside(i, 0, at.size - 1)) {
            return found(NO_PLACE);
        }
        return answered(at.keep(i, v));
    }

    public int copy(int a, int i, int b, int j, int n) {
        Row from = rowAt(a);
        Row to = rowAt(b);
        if (from == null || to == null) {
            return BAD;
        }
        if (!from.there || !to.there) {
            return found(NO_ROW);
        }
        if (from.lane != to.lane) {
            return found(TWO_LANES);
        }
        if (!from.reaches(i, n) || !to.reaches(j, n)) {
            return found(NO_PLACE);
        }
        to.items.take(from.items, i, j, n);
        return answered(n);
    }

    public int drop(int row) {
        Row at = rowAt(row);
        if (at == null) {
            return BAD;
        }
        if (!at.there) {
            return found(NO_ROW);
        }
        at.there = false;
        return answered(at.size);
    }

    // ---- towns, days

    public int feed(long w, int n) {
        if (outside(n, 1, 8)) {
            return BAD;
        }
        if (tape.length + n > MOST_BYTES) {
            return FULL;
        }
        for (int k = n - 1; k >= 0; k--) {
            tape.push((int) (w >>> (8 * k)) & 255);
        }
        return tape.length;
    }

    public int town() {
        tape.readTown(draft);
        tape.length = 0;
        if (tape.fault != 0) {
            latestFault = tape.fault;
            return FAULTS - tape.from;
        }
        town.becomes(draft);
        return town.numbers;
    }

    public int fault() {
        return latestFault;
    }

    public int day(int n, int h) {
        if (!town.stands) {
            return STATE;
        }
        if (outside(n, 0, MOST_COME) || outside(h, 0, n)) {
            return BAD;
        }
        if (town.numbers + n > MOST_PEOPLE) {
            return FULL;
        }
        return town.passDay(n, h);
    }

    public int born() {
        if (!town.stands) {
            return STATE;
        }
        if (town.numbers >= MOST_PEOPLE) {
            return FULL;
        }
        return town.join(BORN, 0, 0);
    }

    public int smuggle(int person) {
        if (!town.has(person)) {
            return BAD;
        }
        if (!town.isIn(person)) {
            return STATE;
        }
        town.leave(town.placeOf(person), 0);
        return 1;
    }

    public int call(int person) {
        if (!town.has(person)) {
            return BAD;
        }
        if (town.isIn(person)) {
            return STATE;
        }
        town.kinds.put(person, CALLED);
        return town.stand(person);
    }

    public int person(int person, int what) {
        if (!town.has(person)) {
            return BAD;
        }
        switch (what) {
            case 0:
                return town.kinds.at(person);
            case 1:
                return town.ranks.at(person);
            case 2:
                return town.hastes.at(person);
            case 3:
                return town.placeOf(person);
            case 4:
                return town.isIn(person) ? town.aheadOf(person) : NONE;
            case 5:
                return town.leftOn.at(person) > 0 ? town.leftOn.at(person) : NONE;
            default:
                return BAD;
        }
    }

    // ---- foretold

    public int out(int person, int row, int m) {
        Row comings = rowAt(row);
        if (!town.isIn(person) || comings == null || outside(m, 1, MOST_FORETOLD)) {
            return BAD;
        }
        int refused = refusal(comings, m, MOST_COME);
        if (refused != 0) {
            return refused;
        }
        return answered(town.dayOut(person, comings, m));
    }

    public int span(int person, int fewest, int most, int m, int what) {
        Row low = rowAt(fewest);
        Row high = rowAt(most);
        if (!town.isIn(person) || low == null || high == null) {
            return BAD;
        }
        if (outside(m, 1, MOST_FORETOLD) || outside(what, 0, 1)) {
            return BAD;
        }
        int refused = spanRefusal(low, high, m, MOST_COME);
        if (refused != 0) {
            return refused;
        }
        // The more come the earlier he goes out; by those who pass him nothing changes.
        return answered(town.dayOut(person, what == 0 ? high : low, m));
    }

    public int odds(int person, int fewest, int most, int d, int what) {
        Row low = rowAt(fewest);
        Row high = rowAt(most);
        if (!town.isIn(person) || low == null || high == null) {
            return BAD;
        }
        if (outside(d, 1, MOST_ODDS_DAYS) || outside(what, 0, 1)) {
            return BAD;
        }
        int refused = spanRefusal(low, high, d, MOST_SPREAD);
        if (refused != 0) {
            return refused;
        }
        return answered(fraction(person, low, high, d, what));
    }

    public int hire(int people, int row, int d) {
        if (!town.stands) {
            return STATE;
        }
        Row comings = rowAt(row);
        if (people < 0 || comings == null || outside(d, 1, MOST_FORETOLD)) {
            return BAD;
        }
        int refused = refusal(comings, d, MOST_COME);
        if (refused != 0) {
            return refused;
        }
        return answered(fewestHired(people, comings, d));
    }

    public int swaps(int person, int what) {
        if (!town.isIn(person)) {
            return BAD;
        }
        switch (what) {
            case 0:
                return town.swapped(false);
            case 1:
                return town.swapped(true);
            case 2:
                return town.placeBySwaps(person);
            default:
                return BAD;
        }
    }

    public int lasts(int row, int m) {
        if (!town.stands) {
            return STATE;
        }
        Row comings = rowAt(row);
        if (comings == null || outside(m, 1, MOST_FORETOLD)) {
            return BAD;
        }
        int refused = refusal(comings, m, MOST_COME);
        if (refused != 0) {
            return refused;
        }
        return answered(town.firstHungryDay(comings, m));
    }

    public int unseen(int row, int m, int what) {
        if (!town.stands) {
            return STATE;
        }
        Row counts = rowAt(row);
        if (counts == null || outside(m, 1, MOST_COUNTED_DAYS) || outside(what, 0, 1)) {
            return BAD;
        }
        int refused = refusal(counts, 3 * m, MOST_COUNTED);
        if (refused != 0) {
            return refused;
        }
        return answered(leftUnseen(counts, m, what));
    }

    public int gates(int x, int y, int k, int n) {
        if (outside(x, 0, 999) || outside(y, 0, 999) || outside(k, 0, 100) || outside(n, 0, 1000)) {
            return BAD;
        }
        int first = x;
        int second = y;
        for (int day = 0; day < n; day++) {
            int intoFirst = second * (100 - k) / 100;
            second = first * (100 - k) / 100;
            first = intoFirst;
        }
        return first;
    }

    public int image(int k) {
        Town kept = imageAt(k);
        if (kept == null) {
            return BAD;
        }
        if (!town.stands) {
            return STATE;
        }
        kept.becomes(town);
        return 1;
    }

    public int restore(int k) {
        Town kept = imageAt(k);
        if (kept == null) {
            return BAD;
        }
        if (!kept.stands) {
            return STATE;
        }
        town.becomes(kept);
        return 1;
    }

    // ---- asked

    public int kind(int person) {
        return town.has(person) ? town.kinds.at(person) : BAD;
    }

    public int as(int person, int kind) {
        if (!town.has(person) || outside(kind, PERSON, SMUGGLED)) {
            return BAD;
        }
        if (!isOf(town.kinds.at(person), kind)) {
            return found(NO_SUCH_KIND);
        }
        return answered(person);
    }

    public int ask(int person, int what) {
        if (!town.has(person) || outside(what, 0, 1)) {
            return BAD;
        }
        asked.length = 0;
        return what == 0 ? asked.askSize(town, person, 0) : asked.askMark(town, person, 0);
    }

    public int trace(int i) {
        return outside(i, 0, asked.length - 1) ? NONE : asked.bodies.at(i);
    }

    public int count(int what) {
        switch (what) {
            case 0:
                return rowsThere();
            case 1:
                return town.numbers;
            case 2:
                return town.size;
            case 3:
                return town.days;
            case 4:
                return town.bread;
            case 5:
                return town.spent;
            case 6:
                return town.hungry;
            case 7:
                return town.came;
            case 8:
                return tape.length;
            default:
                return BAD;
        }
    }

    public int status() {
        return latestFinding;
    }

    // ---- what the calls share

    private static boolean outside(int n, int least, int most) {
        return n < least || n > most;
    }

    private int found(int finding) {
        latestFinding = finding;
        return FINDINGS - finding;
    }

    private int answered(int answer) {
        latestFinding = 0;
        return answer;
    }

    private Row rowAt(int row) {
        return row < 0 || row >= rows.length ? null : rows[row];
    }

    private Town imageAt(int k) {
        return k < 0 || k >= images.length ? null : images[k];
    }

    private int rowsThere() {
        int there = 0;
        for (int i = 0; i < MOST_ROWS; i++) {
            Row at = rowAt(i);
            if (at != null && at.there) {
                there++;
            }
        }
        return there;
    }

    /** The refusal or FINDING of one who wants so many ITEMS of 0 to most of a ROW, 0: none. */
    private int refusal(Row row, int wanted, int most) {
        int finding = row.lacks(wanted);
        if (finding != 0) {
            return found(finding);
        }
        return row.between(wanted, 0, most) ? 0 : BAD;
    }

    /** The first ROW is looked at whole ahead of the second. */
    private int spanRefusal(Row low, Row high, int days, int spread) {
        int finding = low.lacks(days);
        if (finding == 0) {
            finding = high.lacks(days);
        }
        if (finding != 0) {
            return found(finding);
        }
        return isSpan(low, high, days, spread) ? 0 : BAD;
    }

    private static boolean isSpan(Row low, Row high, int days, int spread) {
        if (!low.between(days, 0, MOST_COME) || !high.between(days, 0, MOST_COME)) {
            return false;
        }
        for (int k = 0; k < days; k++) {
            if (outside(high.items.at(k) - low.items.at(k), 0, spread)) {
                return false;
            }
        }
        return true;
    }

    private static boolean isOf(int kind, int wanted) {
        int at = kind;
        for (int step = 0; step < ABOVE.length && at >= 0 && at < ABOVE.length; step++) {
            if (at == wanted) {
                return true;
            }
            at = ABOVE[at];
        }
        return false;
    }

    /** What the first day leaves ahead of him is to be worn away by those who come behind him from then on. */
    private int fraction(int person, Row low, Row high, int d, int what) {
        int left = town.aheadOf(person) - town.came;
        if (left < 0) {
            return 1;
        }
        if (town.letsPass(PILGRIM, person)) {
            return what == 0 ? 0 : 1;
        }
        int below = 1;
        int reach = 0;
        ways.clear();
        ways.put(0, 1);
        // Who comes on day d goes out behind it: those days alone count that are ahead.
        for (int k = 0; k < d - 1; k++) {
            spread(low.items.at(k), high.items.at(k), reach + high.items.at(k));
            reach += high.items.at(k);
            below *= high.items.at(k) - low.items.at(k) + 1;
        }
        int above = 0;
        for (int sum = left + 1; sum <= reach; sum++) {
            above += ways.at(sum);
        }
        int shared = Math.max(sharedDivisor(above, below), 1);
        return what == 0 ? above / shared : below / shared;
    }

    /** From the top down, so that each sum is made of sums that are still those of the day before. */
    private void spread(int fewest, int most, int reach) {
        for (int sum = reach; sum >= 0; sum--) {
            int all = 0;
            for (int come = fewest; come <= most; come++) {
                all += ways.at(sum - come);
            }
            ways.put(sum, all);
        }
    }

    private static int sharedDivisor(int a, int b) {
        int greater = a;
        int rest = b;
        for (int step = 0; step < 100 && rest != 0; step++) {
            int next = greater % rest;
            greater = rest;
            rest = next;
        }
        return greater;
    }

    private int fewestHired(int people, Row comings, int d) {
        int coming = 0;
        for (int k = 0; k < d - 1; k++) {
            coming += comings.items.at(k);
        }
        int fewest = 0;
        for (int person = 0; person < MOST_TOLD; person++) {
            if ((people >> person & 1) == 1 && town.isIn(person)) {
                int hired = hiredFor(person, coming, d);
                if (hired == NONE) {
                    return NONE;
                }
                fewest = Math.max(fewest, hired);
            }
        }
        return fewest;
    }

    /** Pilgrims who pass him take but their own turns away; hired ones who pass him never help. */
    private int hiredFor(int person, int coming, int d) {
        int left = town.aheadOf(person) - town.came;
        if (left < 0) {
            return 0;
        }
        if (d == 1 || town.letsPass(HIRED, person)) {
            return NONE;
        }
        int helping = town.letsPass(PILGRIM, person) ? 0 : coming;
        return Math.max(0, left + 1 - helping);
    }

    private int leftUnseen(Row counts, int days, int what) {
        int before = town.size;
        int bits = 0;
        int all = 0;
        for (int k = 0; k < days; k++) {
            int due = before + counts.items.at(3 * k) - counts.items.at(3 * k + 1);
            int counted = counts.items.at(3 * k + 2);
            if (counted < due) {
                bits |= 1 << k;
                all += due - counted;
            }
            before = counted;
        }
        return what == 0 ? bits : all;
    }

    /** Numbers that are looked up and kept only where there is a place for them. */
    private static final class Numbers {
        private final int[] cells;

        Numbers(int room) {
            cells = new int[Math.max(room, 0)];
        }

        int at(int i) {
            return i >= 0 && i < cells.length ? cells[i] : 0;
        }

        void put(int i, int v) {
            if (i >= 0 && i < cells.length) {
                cells[i] = v;
            }
        }

        void clear() {
            for (int i = 0; i < cells.length; i++) {
                cells[i] = 0;
            }
        }

        /** Both may be the same numbers: begun at the end at which none is lost that is still to be taken. */
        void take(Numbers other, int i, int j, int n) {
            if (j > i) {
                for (int k = n - 1; k >= 0; k--) {
                    put(j + k, other.at(i + k));
                }
            } else {
                for (int k = 0; k < n; k++) {
                    put(j + k, other.at(i + k));
                }
            }
        }
    }

    private static final class Row {
        final Numbers items = new Numbers(MOST_ITEMS);
        boolean there = false;
        int lane = 0;
        int size = 0;

        void begin(int newLane, int n) {
            there = true;
            lane = newLane;
            size = n;
            items.clear();
        }

        int keep(int i, int v) {
            int kept = lane == 0 ? (byte) v : lane == 1 ? (short) v : v;
            items.put(i, kept);
            return kept;
        }

        boolean reaches(int i, int n) {
            return i >= 0 && n >= 0 && i <= size && n <= size - i;
        }

        /** The FINDING of one who wants so many ITEMS, 0: none. */
        int lacks(int wanted) {
            return !there ? NO_ROW : wanted > size ? NO_PLACE : 0;
        }

        boolean between(int n, int least, int most) {
            for (int k = 0; k < n; k++) {
                if (outside(items.at(k), least, most)) {
                    return false;
                }
            }
            return true;
        }
    }

    /** The bytes of a text, and the TOKEN at which its reading stands; it stays at the first that has a FAULT. */
    private static final class Tape {
        private static final int END = 0, NAME = 1, NUMBER = 2, SIGN = 3, OTHER = 4;

        final Numbers bytes = new Numbers(MOST_BYTES);
        int length = 0;
        int from = 0;
        int end = 0;
        int token = END;
        int fault = 0;

        void push(int b) {
            bytes.put(length, b);
            length++;
        }

        void readTown(Town to) {
            to.clear();
            end = 0;
            fault = 0;
            next();
            readWord("town");
            to.law = readLaw();
            to.bread = readNumber(999);
            to.pay = readNumber(99);
            to.came = readNumber(MOST_COME);
            accept(token == SIGN);
            // One turn more than there is room for people: in it the one too many is refused.
            for (int turn = 0; turn <= MOST_TOLD && fault == 0 && token != END; turn++) {
                readPerson(to);
            }
            to.stands = fault == 0;
        }

        private void readPerson(Town to) {
            if (spells("person") && to.numbers >= MOST_TOLD) {
                fault = 3;
                return;
            }
            readWord("person");
            int kind = readKind();
            int rank = readNumber(9);
            int haste = readNumber(99);
            accept(token == SIGN);
            if (fault == 0) {
                to.join(kind, rank, haste);
            }
        }

        private int readLaw() {
            int law = spells("list") ? BY_LIST : spells("rank") ? BY_RANK : spells("kind") ? BY_KIND : -1;
            accept(law >= 0);
            return law;
        }

        private int readKind() {
            int kind = spells("pilgrim") ? PILGRIM : spells("hired") ? HIRED : spells("called") ? CALLED
                    : spells("born") ? BORN : spells("smuggled") ? SMUGGLED : -1;
            accept(kind >= 0);
            return kind;
        }

        private void readWord(String word) {
            accept(spells(word));
        }

        private int readNumber(int most) {
            int value = 0;
            if (token == NUMBER) {
                for (int i = from; i < end; i++) {
                    value = 10 * value + bytes.at(i) - '0';
                }
            }
            if (fault == 0 && value > most) {
                fault = 2;
            }
            accept(token == NUMBER);
            return value;
        }

        private void accept(boolean fits) {
            if (fault != 0) {
                return;
            }
            if (fits) {
                next();
            } else {
                fault = 1;
            }
        }

        private boolean spells(String word) {
            if (token != NAME || end - from != word.length()) {
                return false;
            }
            for (int i = 0; i < word.length(); i++) {
                if (bytes.at(from + i) != word.charAt(i)) {
                    return false;
                }
            }
            return true;
        }

        private void next() {
            from = end;
            while (from < length && (bytes.at(from) == ' ' || bytes.at(from) == '\n')) {
                from++;
            }
            if (from >= length) {
                token = END;
                end = from;
                return;
            }
            token = tokenOf(bytes.at(from));
            end = from + 1;
            if (token == NAME || token == NUMBER) {
                while (end < length && tokenOf(bytes.at(end)) == token) {
                    end++;
                }
            }
            if (token == NUMBER && end - from > 3) {
                token = OTHER;
            }
        }

        private static int tokenOf(int b) {
            if (b >= 'a' && b <= 'z') {
                return NAME;
            }
            if (b >= '0' && b <= '9') {
                return NUMBER;
            }
            return b == ';' ? SIGN : OTHER;
        }
    }

    private static final class Town {
        boolean stands = false;
        int law = BY_LIST;
        int bread = 0;
        int pay = 0;
        int came = 0;
        int days = 0;
        int spent = 0;
        int hungry = 0;
        int numbers = 0;
        int size = 0;
        final Numbers kinds = new Numbers(MOST_PEOPLE);
        final Numbers ranks = new Numbers(MOST_PEOPLE);
        final Numbers hastes = new Numbers(MOST_PEOPLE);
        /** The day on which one went out; 0: he is in, or was smuggled. */
        final Numbers leftOn = new Numbers(MOST_PEOPLE);
        final Numbers list = new Numbers(MOST_PEOPLE);

        void clear() {
            stands = false;
            law = BY_LIST;
            bread = 0;
            pay = 0;
            came = 0;
            days = 0;
            spent = 0;
            hungry = 0;
            numbers = 0;
            size = 0;
        }

        void becomes(Town other) {
            stands = other.stands;
            law = other.law;
            bread = other.bread;
            pay = other.pay;
            came = other.came;
            days = other.days;
            spent = other.spent;
            hungry = other.hungry;
            numbers = other.numbers;
            size = other.size;
            kinds.take(other.kinds, 0, 0, numbers);
            ranks.take(other.ranks, 0, 0, numbers);
            hastes.take(other.hastes, 0, 0, numbers);
            leftOn.take(other.leftOn, 0, 0, numbers);
            list.take(other.list, 0, 0, size);
        }

        boolean has(int person) {
            return person >= 0 && person < numbers;
        }

        boolean isIn(int person) {
            return placeOf(person) != NONE;
        }

        int placeOf(int person) {
            for (int i = 0; i < size; i++) {
                if (list.at(i) == person) {
                    return i;
                }
            }
            return NONE;
        }

        /** One more, behind the last: his number. */
        int join(int kind, int rank, int haste) {
            int person = numbers;
            numbers++;
            kinds.put(person, kind);
            ranks.put(person, rank);
            hastes.put(person, haste);
            stand(person);
            return person;
        }

        int stand(int person) {
            int place = size;
            list.put(place, person);
            leftOn.put(person, 0);
            size++;
            return place;
        }

        void leave(int place, int day) {
            leftOn.put(list.at(place), day);
            list.take(list, place + 1, place, size - place - 1);
            size--;
        }

        /** The less it is the earlier he goes; of like ones they go as they stand. */
        private int turn(int kind, int rank) {
            if (law == BY_KIND) {
                return kind >= 0 && kind < TURNS.length ? TURNS[kind] : TURNS.length;
            }
            return law == BY_RANK ? -rank : 0;
        }

        private int turnOf(int person) {
            return turn(kinds.at(person), ranks.at(person));
        }

        /** If one of a KIND, of RANK 0, who comes from now on goes ahead of him. */
        boolean letsPass(int kind, int person) {
            return turn(kind, 0) < turnOf(person);
        }

        /** How many who are in go ahead of him. */
        int aheadOf(int person) {
            int turn = turnOf(person);
            int place = placeOf(person);
            int ahead = 0;
            for (int i = 0; i < size; i++) {
                int other = turnOf(list.at(i));
                if (other < turn || other == turn && i < place) {
                    ahead++;
                }
            }
            return ahead;
        }

        private int placeOfFirst() {
            int first = 0;
            for (int i = 1; i < size; i++) {
                if (turnOf(list.at(i)) < turnOf(list.at(first))) {
                    first = i;
                }
            }
            return first;
        }

        /** A DAY: how many went out. */
        int passDay(int come, int hired) {
            days++;
            int gone = Math.min(came, size);
            for (int k = 0; k < gone; k++) {
                leave(placeOfFirst(), days);
            }
            for (int k = 0; k < come; k++) {
                join(k < come - hired ? PILGRIM : HIRED, 0, 0);
            }
            spent += pay * hired;
            if (bread >= size) {
                bread -= size;
            } else {
                hungry++;
            }
            came = come;
            return gone;
        }

        /** On which of the told days one who is in goes out, if pilgrims come as told. */
        int dayOut(int person, Row comings, int m) {
            boolean passed = letsPass(PILGRIM, person);
            int ahead = aheadOf(person);
            int letOut = came;
            for (int k = 0; k < m; k++) {
                if (ahead < letOut) {
                    return k + 1;
                }
                ahead -= letOut;
                letOut = comings.items.at(k);
                if (passed) {
                    ahead += letOut;
                }
            }
            return NONE;
        }

        int firstHungryDay(Row comings, int m) {
            int left = bread;
            int people = size;
            int letOut = came;
            for (int k = 0; k < m; k++) {
                people -= Math.min(people, letOut);
                letOut = comings.items.at(k);
                people += letOut;
                if (left < people) {
                    return k + 1;
                }
                left -= people;
            }
            return NONE;
        }

        /** Each two who stand the wrong way round change places once: how many such two, or their price. */
        int swapped(boolean price) {
            int all = 0;
            for (int i = 0; i < size; i++) {
                for (int j = i + 1; j < size; j++) {
                    int more = hastes.at(list.at(j)) - hastes.at(list.at(i));
                    if (more > 0) {
                        all += price ? more : 1;
                    }
                }
            }
            return all;
        }

        int placeBySwaps(int person) {
            int haste = hastes.at(person);
            int place = placeOf(person);
            int ahead = 0;
            for (int i = 0; i < size; i++) {
                int other = hastes.at(list.at(i));
                if (other > haste || other == haste && i < place) {
                    ahead++;
                }
            }
            return ahead;
        }
    }

    /** The BODIES, each of which leaves its number in THE TRACE as it begins. */
    private static final class Asked {
        private static final int MOST_TRACED = 16, DEEPEST = 16;
        /** Of each KIND the BODY told for it; 0: none is. */
        private static final int[] SIZES = {0, 11, 12, 0, 13, 14};
        private static final int[] MARKS = {0, 21, 0, 22, 23, 0};
        private static final int LENT_SIZE = 10, LENT_MARK = 20;

        final Numbers bodies = new Numbers(MOST_TRACED);
        int length = 0;

        private int askSize(Town town, int person, int depth) {
            return begin(nearest(SIZES, LENT_SIZE, town.kinds.at(person)), town, person, depth + 1);
        }

        private int askMark(Town town, int person, int depth) {
            return begin(nearest(MARKS, LENT_MARK, town.kinds.at(person)), town, person, depth + 1);
        }

        private static int nearest(int[] told, int lent, int asked) {
            int kind = asked;
            for (int step = 0; step < ABOVE.length; step++) {
                if (kind < 0 || kind >= told.length || kind >= ABOVE.length) {
                    return lent;
                }
                if (told[kind] != 0) {
                    return told[kind];
                }
                kind = ABOVE[kind];
            }
            return lent;
        }

        private int begin(int body, Town town, int person, int depth) {
            // No ask goes half as deep; the bound is there for whoever adds BODIES.
            if (depth > DEEPEST) {
                return 0;
            }
            if (length < MOST_TRACED) {
                bodies.put(length, body);
                length++;
            }
            int within = depth + 1;
            switch (body) {
                case 10:
                    return town.hastes.at(person);
                case 11:
                    return begin(10, town, person, within) + askMark(town, person, within);
                case 12:
                    return -begin(11, town, person, within);
                case 13:
                    return begin(10, town, person, within) - 100;
                case 14:
                    return 2 * begin(13, town, person, within);
                case 20:
                    return person;
                case 21:
                    return begin(20, town, person, within) + 100 * town.ranks.at(person);
                case 22:
                    return begin(21, town, person, within) - 1000;
                case 23:
                    return begin(20, town, person, within) - askSize(town, person, within);
                default:
                    return 0;
            }
        }
    }
}

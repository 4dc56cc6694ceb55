import java.util.Arrays;

/** A ring of houses, two neighbours of which change places each midnight. README.md says how it is used. */
public final class HousesThatChange {
    public static final int NONE = -1, UNKNOWN = -101, OUTSIDE = -102, STATE = -103, FULL = -104;

    private static final int LEAST_HOUSES = 3, MOST_HOUSES = 6, MOST_ORDERS = 720;
    private static final int MOST_FEUDS = 6, MOST_LETTERS = 26;
    private static final int HOUSE = 0, FIXED = 1, EMPTY = 2, WELL = 3;
    private static final int MOST_APART = 5, MOST_ODDS = 8, MOST_WAYS = 12, MOST_NIGHTS = 60;

    private final Page page;
    private final Town town;
    private final Moment now;
    private final Moment kept;
    private final Orders orders;
    private final Mayor mayor;
    private final Goal goal;
    private final Past past;
    private final Stroll stroll;
    private boolean keeps;
    private int readings;

    public HousesThatChange() {
        Town told = new Town();
        Orders all = new Orders();
        page = new Page();
        town = told;
        orders = all;
        now = new Moment();
        kept = new Moment();
        mayor = new Mayor(told, all);
        goal = new Goal(told, all);
        past = new Past(told, all);
        stroll = new Stroll(told);
    }

    // ---- texts

    public int letters(long w) {
        int more = Page.told(w);
        if (more < 0) {
            return OUTSIDE;
        }
        if (page.size + more > MOST_LETTERS) {
            return FULL;
        }
        page.append(w, more);
        return page.size;
    }

    public int blank() {
        return page.clear();
    }

    public int fault(int sort) {
        if (sort == 0) {
            return page.firstNoRing();
        }
        return sort == 1 ? page.firstNoLetter() : OUTSIDE;
    }

    public int ring() {
        if (!page.isRing()) {
            return STATE;
        }
        town.read(page);
        page.clear();
        now.begin();
        orders.prepare(town.houses);
        mayor.forget();
        goal.forget();
        keeps = false;
        readings++;
        return town.houses;
    }

    public int aim() {
        if (!town.stands() || !page.isOrder(town.houses)) {
            return STATE;
        }
        goal.read(page);
        page.clear();
        return town.houses;
    }

    public int letter() {
        if (!town.stands() || !page.isLetter()) {
            return STATE;
        }
        int sort = page.code(0);
        int first = page.digit(1);
        int last = page.digit(page.size - 1);
        if (!town.has(last) || (sort == 'b' && !town.has(first))) {
            return UNKNOWN;
        }
        page.clear();
        return receiver(sort, first, last);
    }

    private int receiver(int sort, int first, int last) {
        int place = now.placeOf(last, town.houses);
        switch (sort) {
            case 'r':
                return now.houseIn(town.around(place + first));
            case 'l':
                return now.houseIn(town.around(place - first));
            case 'b':
                return between(now.placeOf(first, town.houses), place);
            default:
                return last;
        }
    }

    private int between(int place, int other) {
        int found = NONE;
        for (int p = 0; p < town.houses; p++) {
            if (town.beside(p, place) && town.beside(p, other)) {
                if (found != NONE) {
                    return NONE;
                }
                found = now.houseIn(p);
            }
        }
        return found;
    }

    // ---- houses

    public int house(int house, int what) {
        if (!town.has(house)) {
            return UNKNOWN;
        }
        switch (what) {
            case 0:
                return town.kind(house);
            case 1:
                return now.placeOf(house, town.houses);
            case 2:
                return now.placeAhead(house, town.houses);
            case 3:
                return goal.placeOf(house);
            default:
                return OUTSIDE;
        }
    }

    public int as(int house, int kind) {
        if (!town.has(house)) {
            return UNKNOWN;
        }
        if (kind < HOUSE || kind > WELL) {
            return OUTSIDE;
        }
        return town.is(house, kind) ? house : NONE;
    }

    public int at(int place) {
        return town.has(place) ? now.houseIn(place) : UNKNOWN;
    }

    public int feud(int a, int b) {
        if (!town.has(a) || !town.has(b)) {
            return UNKNOWN;
        }
        return town.hate(a, b) ? 1 : 0;
    }

    public int touch() {
        return town.stands() ? town.touching(now.order) : STATE;
    }

    public int joins() {
        if (!town.stands()) {
            return STATE;
        }
        int joins = 0;
        for (int p = 0; p < town.houses; p++) {
            int place = now.placeAhead(now.houseIn(p), town.houses);
            int other = now.placeAhead(now.houseIn(town.next(p)), town.houses);
            if (!town.beside(place, other)) {
                joins++;
            }
        }
        return joins;
    }

    public int walk(int house) {
        if (!town.has(house)) {
            return UNKNOWN;
        }
        int ahead = now.placeAhead(house, town.houses);
        return town.way(0, ahead) + town.way(ahead, now.placeOf(house, town.houses));
    }

    // ---- nights

    public int night(int die, int choice) {
        if (!town.has(die)) {
            return UNKNOWN;
        }
        if (choice < -1 || choice > 1) {
            return OUTSIDE;
        }
        return midnight(town.around(die + choice)) ? 1 : 0;
    }

    private boolean midnight(int place) {
        now.remember();
        if (town.barred(place)) {
            return false;
        }
        now.change(place, town.next(place));
        return true;
    }

    public int nights(int nights, int rule) {
        if (!town.stands()) {
            return STATE;
        }
        if (nights < 1 || nights > MOST_NIGHTS || rule < 0 || rule > 1) {
            return OUTSIDE;
        }
        int touched = 0;
        for (int night = 0; night < nights; night++) {
            int die = now.draw(town.houses);
            int choice = rule == 0 ? 0 : mayor.choice(number(), die, 2);
            midnight(town.around(die + choice));
            if (town.touching(now.order) > 0) {
                touched++;
            }
        }
        return touched;
    }

    private int number() {
        return orders.numberOf(now.order);
    }

    public int seed(int v) {
        if (v < 0) {
            return OUTSIDE;
        }
        int was = now.seed;
        now.seed = v;
        return was;
    }

    public int apart(int nights, int part) {
        if (!town.stands()) {
            return STATE;
        }
        if (nights < 0 || nights > MOST_APART || part < 0 || part > 1) {
            return OUTSIDE;
        }
        mayor.learn(nights);
        return lowest(mayor.rollsFor(number(), nights), town.rolls(nights), part);
    }

    public int choose(int die, int nights) {
        if (!town.has(die)) {
            return UNKNOWN;
        }
        if (nights < 1 || nights > MOST_APART) {
            return OUTSIDE;
        }
        return mayor.choice(number(), die, nights);
    }

    public int fewest() {
        return goal.told ? goal.fewestFrom(number()) : STATE;
    }

    public int surely() {
        return goal.told ? goal.surelyFrom(number()) : STATE;
    }

    public int odds(int house, int place, int nights, int part) {
        if (!town.has(house) || !town.has(place)) {
            return UNKNOWN;
        }
        if (nights < 0 || nights > MOST_ODDS || part < 0 || part > 1) {
            return OUTSIDE;
        }
        int above = stroll.rolls(now.placeOf(house, town.houses), place, nights);
        return lowest(above, town.rolls(nights), part);
    }

    public long ways(int nights) {
        if (!town.stands()) {
            return STATE;
        }
        if (nights < 0 || nights > MOST_WAYS) {
            return OUTSIDE;
        }
        past.goBy(nights);
        return past.rowsTo(number());
    }

    public int must(int nights) {
        if (!town.stands()) {
            return STATE;
        }
        if (nights < 0 || nights > MOST_WAYS) {
            return OUTSIDE;
        }
        past.goBy(nights);
        return past.sharedTo(number());
    }

    private static int lowest(int above, int below, int part) {
        int divisor = above;
        int rest = below;
        // a step of Euclid's at least halves every second rest: 64 are more than an int can need
        for (int step = 0; step < 64 && rest != 0; step++) {
            int next = divisor % rest;
            divisor = rest;
            rest = next;
        }
        int whole = part == 0 ? above : below;
        return divisor == 0 ? whole : whole / divisor;
    }

    // ---- what is told of all

    public int image() {
        if (!town.stands()) {
            return STATE;
        }
        kept.copy(now);
        keeps = true;
        return kept.nights;
    }

    public int restore() {
        if (!keeps) {
            return STATE;
        }
        now.copy(kept);
        return now.nights;
    }

    public int count(int what) {
        switch (what) {
            case 0:
                return town.houses;
            case 1:
                return town.pairs;
            case 2:
                return now.nights;
            case 3:
                return now.seed;
            case 4:
                return page.size;
            case 5:
                return readings;
            default:
                return OUTSIDE;
        }
    }

    public long digest() {
        long h = 571;
        for (int house = 0; house < town.houses; house++) {
            h = houseInto(h, house);
        }
        if (town.stands()) {
            h = 31 * h + touch();
            h = 31 * h + joins();
            h = 31 * h + apart(2, 0);
            h = 31 * h + apart(2, 1);
            h = 31 * h + ways(3);
            h = 31 * h + must(3);
        }
        if (goal.told) {
            h = 31 * h + fewest();
            h = 31 * h + surely();
        }
        for (int i = 0; i < page.size; i++) {
            h = 31 * h + page.code(i);
        }
        for (int what = 0; what <= 5; what++) {
            h = 31 * h + count(what);
        }
        return h;
    }

    private long houseInto(long start, int house) {
        long h = start;
        for (int what = 0; what <= 3; what++) {
            h = 31 * h + house(house, what);
        }
        for (int other = 0; other < town.houses; other++) {
            h = 31 * h + feud(house, other);
        }
        return 31 * h + walk(house);
    }

    /** Rows whose index is looked at before it is used. */
    private static final class Cells {
        static int get(int[] row, int i) {
            return i >= 0 && i < row.length ? row[i] : 0;
        }

        static void put(int[] row, int i, int v) {
            if (i >= 0 && i < row.length) {
                row[i] = v;
            }
        }

        static long get(long[] row, int i) {
            return i >= 0 && i < row.length ? row[i] : 0;
        }

        static void put(long[] row, int i, long v) {
            if (i >= 0 && i < row.length) {
                row[i] = v;
            }
        }
    }

    /** THE PAGE, and which texts are on it. */
    private static final class Page {
        private final int[] codes = new int[MOST_LETTERS];
        private int size;

        /** How many letters w tells; -1 if it tells none rightly. */
        static int told(long w) {
            int letters = 0;
            boolean ended = false;
            for (int i = 0; i < 8; i++) {
                int code = codeIn(w, i);
                if (code > 126 || (ended && code != 0)) {
                    return -1;
                }
                if (code == 0) {
                    ended = true;
                } else {
                    letters++;
                }
            }
            return letters;
        }

        private static int codeIn(long w, int i) {
            return (int) (w >>> (8 * i)) & 255;
        }

        void append(long w, int letters) {
            for (int i = 0; i < letters; i++) {
                Cells.put(codes, size + i, codeIn(w, i));
            }
            size += letters;
        }

        int clear() {
            int was = size;
            size = 0;
            return was;
        }

        int code(int i) {
            return Cells.get(codes, i);
        }

        int digit(int i) {
            return Cells.get(codes, i) - '0';
        }

        private boolean isDigit(int i, int least, int most) {
            return digit(i) >= least && digit(i) <= most;
        }

        /** The KIND that a letter tells; NONE if it tells none. */
        static int kindTold(int code) {
            switch (code) {
                case 'h':
                    return HOUSE;
                case 'f':
                    return FIXED;
                case 'e':
                    return EMPTY;
                case 'w':
                    return WELL;
                default:
                    return NONE;
            }
        }

        int housesTold() {
            int houses = 0;
            while (houses < size && houses < MOST_HOUSES && kindTold(code(houses)) != NONE) {
                houses++;
            }
            return houses;
        }

        int firstNoRing() {
            int houses = housesTold();
            if (houses == size) {
                return size;
            }
            if (houses < LEAST_HOUSES || code(houses) != ';') {
                return houses;
            }
            for (int i = houses + 1; i < size; i++) {
                if (!fitsFeuds(i, houses)) {
                    return i;
                }
            }
            return size;
        }

        private boolean fitsFeuds(int i, int houses) {
            int behind = i - houses - 1;
            if (behind >= 3 * MOST_FEUDS - 1) {
                return false;
            }
            switch (behind % 3) {
                case 0:
                    return isDigit(i, 0, houses - 1);
                case 1:
                    return isDigit(i, 0, houses - 1) && code(i) != code(i - 1);
                default:
                    return code(i) == ',';
            }
        }

        boolean isRing() {
            int houses = housesTold();
            if (houses < LEAST_HOUSES || firstNoRing() != size) {
                return false;
            }
            // a whole row of FEUDS lacks only the "," behind its last one
            return size == houses || (size - houses - 1) % 3 == 2;
        }

        int firstNoLetter() {
            for (int i = 0; i < size; i++) {
                if (!fitsLetter(i)) {
                    return i;
                }
            }
            return size;
        }

        private boolean fitsLetter(int i) {
            int sort = code(0);
            boolean steps = sort == 'r' || sort == 'l';
            switch (i) {
                case 0:
                    return steps || sort == 'n' || sort == 'b';
                case 1:
                    return steps ? isDigit(1, 1, 9) : isDigit(1, 0, 5);
                case 2:
                    return sort != 'n' && isDigit(2, 0, 5) && (steps || code(2) != code(1));
                default:
                    return false;
            }
        }

        boolean isLetter() {
            return size == (code(0) == 'n' ? 2 : 3) && firstNoLetter() == size;
        }

        boolean isOrder(int houses) {
            int seen = 0;
            for (int i = 0; i < size; i++) {
                if (!isDigit(i, 0, houses - 1)) {
                    return false;
                }
                seen |= 1 << digit(i);
            }
            return size == houses && seen == (1 << houses) - 1;
        }
    }

    /** THE RING: what its text tells of HOUSES and FEUDS, and how PLACES lie. */
    private static final class Town {
        private final int[] kinds = new int[MOST_HOUSES];
        private final int[] feuds = new int[MOST_HOUSES * MOST_HOUSES];
        private int houses;
        private int pairs;
        private int bars;

        void read(Page page) {
            houses = page.housesTold();
            for (int house = 0; house < houses; house++) {
                Cells.put(kinds, house, Page.kindTold(page.code(house)));
            }
            setBars();
            Arrays.fill(feuds, 0);
            pairs = 0;
            for (int i = houses + 1; i < page.size; i += 3) {
                quarrel(page.digit(i), page.digit(i + 1));
            }
        }

        private void quarrel(int a, int b) {
            if (!hate(a, b)) {
                Cells.put(feuds, a * MOST_HOUSES + b, 1);
                Cells.put(feuds, b * MOST_HOUSES + a, 1);
                pairs++;
            }
        }

        boolean stands() {
            return houses > 0;
        }

        /** Of a HOUSE or a PLACE: there are as many of them. */
        boolean has(int number) {
            return number >= 0 && number < houses;
        }

        int kind(int house) {
            return Cells.get(kinds, house);
        }

        boolean is(int house, int kind) {
            int own = Cells.get(kinds, house);
            return kind == HOUSE || own == kind || (kind == FIXED && own == WELL);
        }

        boolean hate(int a, int b) {
            return Cells.get(feuds, a * MOST_HOUSES + b) != 0;
        }

        int next(int place) {
            return place + 1 < houses ? place + 1 : 0;
        }

        /** The PLACE that a number is, counted round and round. */
        int around(int number) {
            return houses > 0 ? Math.floorMod(number, houses) : 0;
        }

        boolean beside(int place, int other) {
            return next(place) == other || next(other) == place;
        }

        int way(int from, int to) {
            int way = Math.abs(from - to);
            return Math.min(way, houses - way);
        }

        /**
         * Whether nothing changes in a PLACE and the next one. What is FIXED never leaves the PLACE that it had
         * at first, so the HOUSES of these numbers tell it for every ORDER that can come.
         */
        boolean barred(int place) {
            return (bars >>> place & 1) != 0;
        }

        private void setBars() {
            bars = 0;
            for (int place = 0; place < houses; place++) {
                if (is(place, FIXED) || is(next(place), FIXED)) {
                    bars |= 1 << place;
                }
            }
        }

        int touching(int[] order) {
            int touching = 0;
            for (int p = 0; p < houses; p++) {
                int a = Cells.get(order, p);
                int b = Cells.get(order, next(p));
                if (hate(a, b) && !is(a, EMPTY) && !is(b, EMPTY)) {
                    touching++;
                }
            }
            return touching;
        }

        /** How many rows the DIE can show in so many NIGHTS. */
        int rolls(int nights) {
            int rolls = 1;
            for (int night = 0; night < nights; night++) {
                rolls *= houses;
            }
            return rolls;
        }
    }

    /** What a NIGHT changes, and what an IMAGE keeps of it. */
    private static final class Moment {
        private final int[] order = new int[MOST_HOUSES];
        private final int[] ahead = new int[MOST_HOUSES];
        private int seed = 1;
        private int nights;

        void begin() {
            for (int place = 0; place < MOST_HOUSES; place++) {
                Cells.put(order, place, place);
                Cells.put(ahead, place, place);
            }
            nights = 0;
        }

        void copy(Moment other) {
            for (int place = 0; place < MOST_HOUSES; place++) {
                Cells.put(order, place, Cells.get(other.order, place));
                Cells.put(ahead, place, Cells.get(other.ahead, place));
            }
            seed = other.seed;
            nights = other.nights;
        }

        int houseIn(int place) {
            return Cells.get(order, place);
        }

        int placeOf(int house, int places) {
            return placeIn(order, house, places);
        }

        int placeAhead(int house, int places) {
            return placeIn(ahead, house, places);
        }

        static int placeIn(int[] row, int house, int places) {
            for (int p = 0; p < places; p++) {
                if (Cells.get(row, p) == house) {
                    return p;
                }
            }
            return NONE;
        }

        void remember() {
            for (int place = 0; place < MOST_HOUSES; place++) {
                Cells.put(ahead, place, Cells.get(order, place));
            }
            nights++;
        }

        void change(int place, int other) {
            int house = houseIn(place);
            Cells.put(order, place, houseIn(other));
            Cells.put(order, other, house);
        }

        int draw(int places) {
            long drawn = (1103515245L * seed + 12345L) & 0x7fffffffL;
            seed = (int) drawn;
            return places > 0 ? (seed >> 16) % places : 0;
        }
    }

    /** All ORDERS of so many HOUSES by their numbers, as a dictionary has them, and which one becomes which. */
    private static final class Orders {
        private final int[] changed = new int[MOST_ORDERS * MOST_HOUSES];
        private final int[] row = new int[MOST_HOUSES];
        private int places;
        private int size;

        /** The table is the same for every RING of so many HOUSES: it is made anew only for others. */
        void prepare(int houses) {
            if (places == houses) {
                return;
            }
            places = houses;
            size = 1;
            for (int factor = 2; factor <= places; factor++) {
                size *= factor;
            }
            for (int number = 0; number < size; number++) {
                unfold(number);
                for (int p = 0; p < places; p++) {
                    int other = p + 1 < places ? p + 1 : 0;
                    change(p, other);
                    Cells.put(changed, number * MOST_HOUSES + p, numberOf(row));
                    change(p, other);
                }
            }
        }

        private void change(int place, int other) {
            int house = Cells.get(row, place);
            Cells.put(row, place, Cells.get(row, other));
            Cells.put(row, other, house);
        }

        int numberOf(int[] order) {
            int number = 0;
            for (int i = 0; i < places; i++) {
                int smaller = 0;
                for (int j = i + 1; j < places; j++) {
                    if (Cells.get(order, j) < Cells.get(order, i)) {
                        smaller++;
                    }
                }
                number = number * (places - i) + smaller;
            }
            return number;
        }

        /** The ORDER of a number, in the row that the next one will use again. */
        int[] unfold(int number) {
            int rest = number;
            for (int base = 1; base <= places; base++) {
                int i = places - base;
                int smaller = rest % base;
                rest /= base;
                Cells.put(row, i, smaller);
                for (int j = i + 1; j < places; j++) {
                    int house = Cells.get(row, j);
                    Cells.put(row, j, house >= smaller ? house + 1 : house);
                }
            }
            return row;
        }

        int after(int number, int place) {
            return Cells.get(changed, number * MOST_HOUSES + place);
        }
    }

    /** APART and CHOOSE: for each ORDER, by how many rolls of the DIE FEUDS stay apart for 0, 1, .. NIGHTS. */
    private static final class Mayor {
        private final Town town;
        private final Orders orders;
        private final int[] rolls = new int[MOST_APART * MOST_ORDERS];
        private final int[] left = new int[MOST_HOUSES];
        private int known;

        Mayor(Town town, Orders orders) {
            this.town = town;
            this.orders = orders;
        }

        void forget() {
            known = 0;
        }

        /** What so many NIGHTS look up: the rolls for all fewer ones. */
        void learn(int nights) {
            while (known < nights && known < MOST_APART) {
                for (int order = 0; order < orders.size; order++) {
                    Cells.put(rolls, known * MOST_ORDERS + order, rollsFor(order, known));
                }
                known++;
            }
        }

        /** Wants that so many NIGHTS are learnt. */
        int rollsFor(int order, int nights) {
            if (nights == 0) {
                return town.touching(orders.unfold(order)) == 0 ? 1 : 0;
            }
            if (Cells.get(rolls, order) == 0) {
                return 0;
            }
            lookAhead(order, nights);
            int sum = 0;
            for (int die = 0; die < town.houses; die++) {
                sum += Math.max(leftBy(die - 1), Math.max(leftBy(die), leftBy(die + 1)));
            }
            return sum;
        }

        int choice(int order, int die, int nights) {
            learn(nights);
            lookAhead(order, nights);
            int best = -1;
            for (int choice = 0; choice <= 1; choice++) {
                if (leftBy(die + choice) > leftBy(die + best)) {
                    best = choice;
                }
            }
            return best;
        }

        /** For each PLACE, the rolls for the NIGHTS behind a change in it. */
        private void lookAhead(int order, int nights) {
            for (int p = 0; p < town.houses; p++) {
                int then = town.barred(p) ? order : orders.after(order, p);
                Cells.put(left, p, Cells.get(rolls, (nights - 1) * MOST_ORDERS + then));
            }
        }

        private int leftBy(int number) {
            return Cells.get(left, town.around(number));
        }
    }

    /** THE AIM, and for each ORDER how many NIGHTS it is away. */
    private static final class Goal {
        private final Town town;
        private final Orders orders;
        private final int[] order = new int[MOST_HOUSES];
        private final int[] few = new int[MOST_ORDERS];
        private final int[] sure = new int[MOST_ORDERS];
        private final int[] line = new int[MOST_ORDERS];
        private boolean told;
        private boolean fewCounted;
        private boolean sureCounted;

        Goal(Town town, Orders orders) {
            this.town = town;
            this.orders = orders;
        }

        void forget() {
            told = false;
        }

        void read(Page page) {
            for (int place = 0; place < town.houses; place++) {
                Cells.put(order, place, page.digit(place));
            }
            told = true;
            fewCounted = false;
            sureCounted = false;
        }

        int placeOf(int house) {
            return told ? Moment.placeIn(order, house, town.houses) : NONE;
        }

        int fewestFrom(int number) {
            if (!fewCounted) {
                countFew();
                fewCounted = true;
            }
            return Cells.get(few, number);
        }

        /** A change taken twice is none, so it is as far from THE AIM as to it. */
        private void countFew() {
            Arrays.fill(few, NONE);
            int aim = orders.numberOf(order);
            Cells.put(few, aim, 0);
            Cells.put(line, 0, aim);
            int waiting = 1;
            for (int first = 0; first < waiting && first < MOST_ORDERS; first++) {
                int from = Cells.get(line, first);
                for (int p = 0; p < town.houses; p++) {
                    int to = orders.after(from, p);
                    if (!town.barred(p) && Cells.get(few, to) == NONE) {
                        Cells.put(few, to, Cells.get(few, from) + 1);
                        Cells.put(line, waiting, to);
                        waiting++;
                    }
                }
            }
        }

        int surelyFrom(int number) {
            if (!sureCounted) {
                countSure();
                sureCounted = true;
            }
            return Cells.get(sure, number);
        }

        private void countSure() {
            Arrays.fill(sure, NONE);
            Cells.put(sure, orders.numberOf(order), 0);
            boolean more = true;
            for (int nights = 1; more && nights <= MOST_ORDERS; nights++) {
                more = false;
                for (int from = 0; from < orders.size; from++) {
                    if (Cells.get(sure, from) == NONE && canForce(from, nights)) {
                        Cells.put(sure, from, nights);
                        more = true;
                    }
                }
            }
        }

        /** Whether each DIE leaves a CHOICE to an ORDER that needs fewer NIGHTS than so many. */
        private boolean canForce(int from, int nights) {
            int good = 0;
            for (int p = 0; p < town.houses; p++) {
                int need = town.barred(p) ? NONE : Cells.get(sure, orders.after(from, p));
                if (need != NONE && need < nights) {
                    good |= 1 << p;
                }
            }
            for (int die = 0; die < town.houses; die++) {
                int reach = 1 << die | 1 << town.next(die) | 1 << town.around(die - 1);
                if ((good & reach) == 0) {
                    return false;
                }
            }
            return true;
        }
    }

    /** WAYS and MUST: for each ORDER, the rows of changes from the first ORDER to it. */
    private static final class Past {
        private final Town town;
        private final Orders orders;
        private final long[] rows = new long[MOST_ORDERS];
        private final long[] rowsThen = new long[MOST_ORDERS];
        private final int[] shared = new int[MOST_ORDERS];
        private final int[] sharedThen = new int[MOST_ORDERS];

        Past(Town town, Orders orders) {
            this.town = town;
            this.orders = orders;
        }

        void goBy(int nights) {
            Arrays.fill(rows, 0L);
            // the first ORDER is number 0: its digits go up
            Cells.put(rows, 0, 1L);
            Cells.put(shared, 0, 0);
            for (int night = 0; night < nights; night++) {
                Arrays.fill(rowsThen, 0L);
                for (int from = 0; from < orders.size; from++) {
                    if (Cells.get(rows, from) > 0) {
                        spread(from);
                    }
                }
                for (int order = 0; order < orders.size; order++) {
                    Cells.put(rows, order, Cells.get(rowsThen, order));
                    Cells.put(shared, order, Cells.get(sharedThen, order));
                }
            }
        }

        private void spread(int from) {
            for (int p = 0; p < town.houses; p++) {
                if (!town.barred(p)) {
                    int to = orders.after(from, p);
                    int places = Cells.get(shared, from) | 1 << p;
                    boolean first = Cells.get(rowsThen, to) == 0;
                    Cells.put(sharedThen, to, first ? places : places & Cells.get(sharedThen, to));
                    Cells.put(rowsThen, to, Cells.get(rowsThen, to) + Cells.get(rows, from));
                }
            }
        }

        long rowsTo(int number) {
            return Cells.get(rows, number);
        }

        int sharedTo(int number) {
            return rowsTo(number) > 0 ? Cells.get(shared, number) : 0;
        }
    }

    /** ODDS: one HOUSE's PLACES, by how many rows of the DIE each. */
    private static final class Stroll {
        private final Town town;
        private final int[] rolls = new int[MOST_HOUSES];
        private final int[] rollsThen = new int[MOST_HOUSES];

        Stroll(Town town) {
            this.town = town;
        }

        int rolls(int from, int to, int nights) {
            Arrays.fill(rolls, 0);
            Cells.put(rolls, from, 1);
            for (int night = 0; night < nights; night++) {
                Arrays.fill(rollsThen, 0);
                for (int p = 0; p < town.houses; p++) {
                    for (int die = 0; die < town.houses; die++) {
                        add(placeAfter(p, die), Cells.get(rolls, p));
                    }
                }
                for (int p = 0; p < town.houses; p++) {
                    Cells.put(rolls, p, Cells.get(rollsThen, p));
                }
            }
            return Cells.get(rolls, to);
        }

        private void add(int place, int rolled) {
            Cells.put(rollsThen, place, Cells.get(rollsThen, place) + rolled);
        }

        private int placeAfter(int place, int die) {
            if (town.barred(die)) {
                return place;
            }
            if (place == die) {
                return town.next(die);
            }
            return place == town.next(die) ? die : place;
        }
    }
}

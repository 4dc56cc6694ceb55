import java.math.BigInteger;
import java.util.ArrayList;
import java.util.Collections;
import java.util.HashMap;
import java.util.HashSet;
import java.util.List;
import java.util.Map;
import java.util.Set;
import java.util.regex.Matcher;
import java.util.regex.Pattern;

/**
 * The document's promises once more, as its words say them and by other means than the program's: texts by regular
 * expressions, ORDERS as lists in maps and sets, nothing kept from one call to the next that a call could work out.
 */
final class PlainHouses {
    private static final int NONE = -1, UNKNOWN = -101, OUTSIDE = -102, STATE = -103, FULL = -104;
    private static final Pattern LETTER = Pattern.compile("n[0-5]|[rl][1-9][0-5]|b(?:" + pairs(6) + ")");

    private String page = "";
    private String ring = "";
    private Set<Set<Integer>> feuds = new HashSet<>();
    private List<Integer> order = new ArrayList<>();
    private List<Integer> ahead = new ArrayList<>();
    private List<Integer> aim;
    private int seed = 1;
    private int nights;
    private int readings;
    private boolean keeps;
    private List<Integer> keptOrder;
    private List<Integer> keptAhead;
    private int keptSeed;
    private int keptNights;

    private static String pairs(int houses) {
        List<String> pairs = new ArrayList<>();
        for (int a = 0; a < houses; a++) {
            for (int b = 0; b < houses; b++) {
                if (a != b) {
                    pairs.add("" + a + b);
                }
            }
        }
        return String.join("|", pairs);
    }

    private static Pattern ringOf(int houses) {
        String feud = "(?:" + pairs(houses) + ")";
        return Pattern.compile("[hfew]{" + houses + "}(?:;" + feud + "(?:," + feud + "){0,5})?");
    }

    private static boolean canBegin(Pattern pattern, String text) {
        Matcher matcher = pattern.matcher(text);
        return matcher.matches() || matcher.hitEnd();
    }

    private static boolean canBeginRing(String text) {
        for (int houses = 3; houses <= 6; houses++) {
            if (canBegin(ringOf(houses), text)) {
                return true;
            }
        }
        return false;
    }

    private boolean isRing() {
        for (int houses = 3; houses <= 6; houses++) {
            if (ringOf(houses).matcher(page).matches()) {
                return true;
            }
        }
        return false;
    }

    int letters(long w) {
        String more = "";
        boolean ended = false;
        for (int i = 0; i < 8; i++) {
            int code = (int) ((w >>> 8 * i) & 0xff);
            if (code > 126 || ended && code != 0) {
                return OUTSIDE;
            }
            ended = code == 0;
            if (!ended) {
                more += (char) code;
            }
        }
        if (page.length() + more.length() > 26) {
            return FULL;
        }
        page += more;
        return page.length();
    }

    int blank() {
        int was = page.length();
        page = "";
        return was;
    }

    int fault(int sort) {
        if (sort != 0 && sort != 1) {
            return OUTSIDE;
        }
        for (int i = 0; i < page.length(); i++) {
            String begun = page.substring(0, i + 1);
            if (!(sort == 0 ? canBeginRing(begun) : canBegin(LETTER, begun))) {
                return i;
            }
        }
        return page.length();
    }

    int ring() {
        if (!isRing()) {
            return STATE;
        }
        String[] halves = page.split(";");
        ring = halves[0];
        feuds = new HashSet<>();
        if (halves.length > 1) {
            for (String feud : halves[1].split(",")) {
                feuds.add(Set.of(feud.charAt(0) - '0', feud.charAt(1) - '0'));
            }
        }
        order = first();
        ahead = first();
        aim = null;
        nights = 0;
        readings++;
        keeps = false;
        page = "";
        return size();
    }

    private int size() {
        return ring.length();
    }

    private List<Integer> first() {
        List<Integer> first = new ArrayList<>();
        for (int i = 0; i < size(); i++) {
            first.add(i);
        }
        return first;
    }

    int aim() {
        if (size() == 0 || page.length() != size()) {
            return STATE;
        }
        List<Integer> told = new ArrayList<>();
        for (char letter : page.toCharArray()) {
            told.add(letter - '0');
        }
        List<Integer> sorted = new ArrayList<>(told);
        Collections.sort(sorted);
        if (!sorted.equals(first())) {
            return STATE;
        }
        aim = told;
        page = "";
        return size();
    }

    int letter() {
        if (size() == 0 || !LETTER.matcher(page).matches()) {
            return STATE;
        }
        int first = page.charAt(1) - '0';
        int last = page.charAt(page.length() - 1) - '0';
        char sort = page.charAt(0);
        if (last >= size() || sort == 'b' && first >= size()) {
            return UNKNOWN;
        }
        page = "";
        if (sort == 'n') {
            return first;
        }
        if (sort == 'b') {
            List<Integer> both = new ArrayList<>(neighbours(order, first));
            both.retainAll(neighbours(order, last));
            return both.size() == 1 ? both.get(0) : NONE;
        }
        int place = order.indexOf(last);
        for (int step = 0; step < first; step++) {
            place = sort == 'r' ? right(place) : left(place);
        }
        return order.get(place);
    }

    private int right(int place) {
        return place == size() - 1 ? 0 : place + 1;
    }

    private int left(int place) {
        return place == 0 ? size() - 1 : place - 1;
    }

    private Set<Integer> neighbours(List<Integer> row, int house) {
        int place = row.indexOf(house);
        return Set.of(row.get(left(place)), row.get(right(place)));
    }

    private boolean no(int number) {
        return number < 0 || number >= size();
    }

    int house(int house, int what) {
        if (no(house)) {
            return UNKNOWN;
        }
        if (what == 0) {
            return "hfew".indexOf(ring.charAt(house));
        }
        if (what == 3) {
            return aim == null ? NONE : aim.indexOf(house);
        }
        return what == 1 ? order.indexOf(house) : what == 2 ? ahead.indexOf(house) : OUTSIDE;
    }

    int as(int house, int kind) {
        if (no(house)) {
            return UNKNOWN;
        }
        if (kind < 0 || kind > 3) {
            return OUTSIDE;
        }
        String[] kinds = {"hfew", "fw", "e", "w"};
        return kinds[kind].indexOf(ring.charAt(house)) >= 0 ? house : NONE;
    }

    int at(int place) {
        return no(place) ? UNKNOWN : order.get(place);
    }

    int feud(int a, int b) {
        if (no(a) || no(b)) {
            return UNKNOWN;
        }
        return a != b && feuds.contains(Set.of(a, b)) ? 1 : 0;
    }

    int touch() {
        return size() == 0 ? STATE : touching(order);
    }

    private int touching(List<Integer> row) {
        int touching = 0;
        for (Set<Integer> feud : feuds) {
            List<Integer> pair = new ArrayList<>(feud);
            int a = pair.get(0);
            int b = pair.get(1);
            boolean empty = ring.charAt(a) == 'e' || ring.charAt(b) == 'e';
            if (!empty && neighbours(row, a).contains(b)) {
                touching++;
            }
        }
        return touching;
    }

    int joins() {
        if (size() == 0) {
            return STATE;
        }
        int joins = 0;
        for (int a = 0; a < size(); a++) {
            for (int b = a + 1; b < size(); b++) {
                if (neighbours(order, a).contains(b) && !neighbours(ahead, a).contains(b)) {
                    joins++;
                }
            }
        }
        return joins;
    }

    int walk(int house) {
        if (no(house)) {
            return UNKNOWN;
        }
        return way(0, ahead.indexOf(house)) + way(ahead.indexOf(house), order.indexOf(house));
    }

    private int way(int from, int to) {
        int on = 0;
        for (int place = from; place != to; place = right(place)) {
            on++;
        }
        int back = 0;
        for (int place = from; place != to; place = left(place)) {
            back++;
        }
        return Math.min(on, back);
    }

    private List<Integer> after(List<Integer> row, int place) {
        List<Integer> then = new ArrayList<>(row);
        if ("fw".indexOf(ring.charAt(row.get(place))) < 0 && "fw".indexOf(ring.charAt(row.get(right(place)))) < 0) {
            Collections.swap(then, place, right(place));
        }
        return then;
    }

    private int chosen(int die, int choice) {
        return choice == 0 ? die : choice < 0 ? left(die) : right(die);
    }

    int night(int die, int choice) {
        if (no(die)) {
            return UNKNOWN;
        }
        if (choice < -1 || choice > 1) {
            return OUTSIDE;
        }
        ahead = order;
        order = after(order, chosen(die, choice));
        nights++;
        return ahead.equals(order) ? 0 : 1;
    }

    int nights(int count, int rule) {
        if (size() == 0) {
            return STATE;
        }
        if (count < 1 || count > 60 || rule < 0 || rule > 1) {
            return OUTSIDE;
        }
        int touched = 0;
        for (int i = 0; i < count; i++) {
            seed = (int) ((1103515245L * seed + 12345L) % 2147483648L);
            int die = seed / 65536 % size();
            night(die, rule == 0 ? 0 : choose(die, 2));
            touched += touching(order) > 0 ? 1 : 0;
        }
        return touched;
    }

    int seed(int v) {
        if (v < 0) {
            return OUTSIDE;
        }
        int was = seed;
        seed = v;
        return was;
    }

    /** How many of the DIE's rows of so many NIGHTS keep FEUDS apart. */
    private long apart(List<Integer> row, int left, List<Map<List<Integer>, Long>> seen) {
        if (touching(row) > 0) {
            return 0;
        }
        if (left == 0) {
            return 1;
        }
        Long known = seen.get(left).get(row);
        if (known != null) {
            return known;
        }
        long sum = 0;
        for (int die = 0; die < size(); die++) {
            long best = 0;
            for (int choice = -1; choice <= 1; choice++) {
                best = Math.max(best, apart(after(row, chosen(die, choice)), left - 1, seen));
            }
            sum += best;
        }
        seen.get(left).put(row, sum);
        return sum;
    }

    private List<Map<List<Integer>, Long>> nothingSeen() {
        List<Map<List<Integer>, Long>> seen = new ArrayList<>();
        for (int i = 0; i <= 5; i++) {
            seen.add(new HashMap<>());
        }
        return seen;
    }

    private long power(int count) {
        long power = 1;
        for (int i = 0; i < count; i++) {
            power *= size();
        }
        return power;
    }

    private int lowest(long above, long below, int part) {
        long divisor = BigInteger.valueOf(above).gcd(BigInteger.valueOf(below)).longValue();
        return (int) ((part == 0 ? above : below) / divisor);
    }

    int apart(int count, int part) {
        if (size() == 0) {
            return STATE;
        }
        if (count < 0 || count > 5 || part < 0 || part > 1) {
            return OUTSIDE;
        }
        return lowest(apart(order, count, nothingSeen()), power(count), part);
    }

    int choose(int die, int count) {
        if (no(die)) {
            return UNKNOWN;
        }
        if (count < 1 || count > 5) {
            return OUTSIDE;
        }
        int chosen = NONE;
        long best = -1;
        List<Map<List<Integer>, Long>> seen = nothingSeen();
        for (int choice = -1; choice <= 1; choice++) {
            long rows = apart(after(order, chosen(die, choice)), count - 1, seen);
            if (rows > best) {
                best = rows;
                chosen = choice;
            }
        }
        return chosen;
    }

    int fewest() {
        if (aim == null) {
            return STATE;
        }
        Set<List<Integer>> reached = new HashSet<>();
        reached.add(order);
        for (int count = 0; count <= 720; count++) {
            if (reached.contains(aim)) {
                return count;
            }
            Set<List<Integer>> wider = new HashSet<>(reached);
            for (List<Integer> row : reached) {
                for (int place = 0; place < size(); place++) {
                    wider.add(after(row, place));
                }
            }
            if (wider.size() == reached.size()) {
                return NONE;
            }
            reached = wider;
        }
        return NONE;
    }

    private Set<List<Integer>> reachable() {
        List<List<Integer>> reached = new ArrayList<>();
        reached.add(order);
        Set<List<Integer>> seen = new HashSet<>(reached);
        for (int i = 0; i < reached.size(); i++) {
            for (int place = 0; place < size(); place++) {
                List<Integer> then = after(reached.get(i), place);
                if (seen.add(then)) {
                    reached.add(then);
                }
            }
        }
        return seen;
    }

    int surely() {
        if (aim == null) {
            return STATE;
        }
        Set<List<Integer>> safe = new HashSet<>();
        safe.add(aim);
        Set<List<Integer>> all = reachable();
        for (int count = 0; count <= 720; count++) {
            if (safe.contains(order)) {
                return count;
            }
            Set<List<Integer>> wider = new HashSet<>(safe);
            for (List<Integer> row : all) {
                if (forced(row, safe)) {
                    wider.add(row);
                }
            }
            if (wider.size() == safe.size()) {
                return NONE;
            }
            safe = wider;
        }
        return NONE;
    }

    private boolean forced(List<Integer> row, Set<List<Integer>> safe) {
        for (int die = 0; die < size(); die++) {
            boolean one = false;
            for (int choice = -1; choice <= 1; choice++) {
                one |= safe.contains(after(row, chosen(die, choice)));
            }
            if (!one) {
                return false;
            }
        }
        return true;
    }

    int odds(int house, int place, int count, int part) {
        if (no(house) || no(place)) {
            return UNKNOWN;
        }
        if (count < 0 || count > 8 || part < 0 || part > 1) {
            return OUTSIDE;
        }
        Map<List<Integer>, Long> rows = new HashMap<>();
        rows.put(order, 1L);
        for (int i = 0; i < count; i++) {
            Map<List<Integer>, Long> then = new HashMap<>();
            for (Map.Entry<List<Integer>, Long> row : rows.entrySet()) {
                for (int die = 0; die < size(); die++) {
                    then.merge(after(row.getKey(), die), row.getValue(), Long::sum);
                }
            }
            rows = then;
        }
        long above = 0;
        for (Map.Entry<List<Integer>, Long> row : rows.entrySet()) {
            above += row.getKey().get(place) == house ? row.getValue() : 0;
        }
        return lowest(above, power(count), part);
    }

    /** How many rows of PLACES without one of them lead to the ORDER now. */
    private long rowsWithout(int without, int count) {
        Map<List<Integer>, Long> rows = new HashMap<>();
        rows.put(first(), 1L);
        for (int i = 0; i < count; i++) {
            Map<List<Integer>, Long> then = new HashMap<>();
            for (Map.Entry<List<Integer>, Long> row : rows.entrySet()) {
                for (int place = 0; place < size(); place++) {
                    List<Integer> next = after(row.getKey(), place);
                    if (place != without && !next.equals(row.getKey())) {
                        then.merge(next, row.getValue(), Long::sum);
                    }
                }
            }
            rows = then;
        }
        return rows.getOrDefault(order, 0L);
    }

    long ways(int count) {
        if (size() == 0) {
            return STATE;
        }
        return count < 0 || count > 12 ? OUTSIDE : rowsWithout(NONE, count);
    }

    int must(int count) {
        if (size() == 0) {
            return STATE;
        }
        if (count < 0 || count > 12) {
            return OUTSIDE;
        }
        int must = 0;
        for (int place = 0; place < size(); place++) {
            if (rowsWithout(place, count) == 0) {
                must |= 1 << place;
            }
        }
        return rowsWithout(NONE, count) == 0 ? 0 : must;
    }

    int image() {
        if (size() == 0) {
            return STATE;
        }
        keeps = true;
        keptOrder = order;
        keptAhead = ahead;
        keptSeed = seed;
        keptNights = nights;
        return nights;
    }

    int restore() {
        if (!keeps) {
            return STATE;
        }
        order = keptOrder;
        ahead = keptAhead;
        seed = keptSeed;
        nights = keptNights;
        return nights;
    }

    int count(int what) {
        int[] counts = {size(), feuds.size(), nights, seed, page.length(), readings};
        return what < 0 || what >= counts.length ? OUTSIDE : counts[what];
    }

    long digest() {
        List<Long> numbers = new ArrayList<>();
        for (int house = 0; house < size(); house++) {
            for (int what = 0; what <= 3; what++) {
                numbers.add((long) house(house, what));
            }
            for (int other = 0; other < size(); other++) {
                numbers.add((long) feud(house, other));
            }
            numbers.add((long) walk(house));
        }
        if (size() > 0) {
            numbers.addAll(List.of((long) touch(), (long) joins(), (long) apart(2, 0), (long) apart(2, 1)));
            numbers.addAll(List.of(ways(3), (long) must(3)));
        }
        if (aim != null) {
            numbers.addAll(List.of((long) fewest(), (long) surely()));
        }
        for (char letter : page.toCharArray()) {
            numbers.add((long) letter);
        }
        for (int what = 0; what <= 5; what++) {
            numbers.add((long) count(what));
        }
        long h = 571;
        for (long number : numbers) {
            h = 31 * h + number;
        }
        return h;
    }
}

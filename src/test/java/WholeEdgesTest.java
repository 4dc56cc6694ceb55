import java.math.BigInteger;
import java.util.ArrayList;
import java.util.List;

/** Promises 25 to 28, refusals, and how long an object is used: a test for each sentence that names a boundary. */
public final class WholeEdgesTest extends Check {
    public static void main(String[] args) {
        promises25And26();
        promises27And28();
        refusals();
        finish("the edges of the whole hold");
    }

    private static void promises25And26() {
        edge("25: STATE: there is no RING", WholeEdgesTest::imageWithoutRing);
        edge("25: how many NIGHTS there were", WholeEdgesTest::imageNights);
        edge("25: one; the latest", WholeEdgesTest::imageLatest);
        edge("26: STATE: none was kept", WholeEdgesTest::restoreNone);
        edge("26: STATE: a RING was read since (of the same text, too)", WholeEdgesTest::restoreOfOldRing);
        edge("26: how many NIGHTS there were (as it was kept)", WholeEdgesTest::restoreNights);
        edge("26: It goes on from the IMAGE, again and again", WholeEdgesTest::restoreAgain);
        edge("AN IMAGE keeps the ORDER", WholeEdgesTest::keepsOrder);
        edge("AN IMAGE keeps that ahead of the last NIGHT", WholeEdgesTest::keepsAhead);
        edge("AN IMAGE keeps THE SEED", WholeEdgesTest::keepsSeed);
        edge("AN IMAGE keeps nothing else", WholeEdgesTest::keepsNothingElse);
    }

    private static void promises27And28() {
        edge("27: 0 .. 5; OUTSIDE", WholeEdgesTest::counts);
        edge("27: 0 HOUSES", WholeEdgesTest::countHouses);
        edge("27: 1 FEUDS (unlike ones)", WholeEdgesTest::countFeuds);
        edge("27: 2 NIGHTS", WholeEdgesTest::countNights);
        edge("27: 3 THE SEED", WholeEdgesTest::countSeed);
        edge("27: 4 letters of THE PAGE", WholeEdgesTest::countLetters);
        edge("27: 5 how often a RING was read", WholeEdgesTest::countReadings);
        edge("28: without a RING", WholeEdgesTest::digestWithoutRing);
        edge("28: with a RING", WholeEdgesTest::digestOfRing);
        edge("28: with an AIM", WholeEdgesTest::digestOfAim);
        edge("28: letters of THE PAGE, each by its code", WholeEdgesTest::digestOfPages);
        edge("28: as longs, wrapping", WholeEdgesTest::digestWraps);
        edge("28: it changes nothing", WholeEdgesTest::digestChangesNothing);
    }

    private static void refusals() {
        edge("Refusals: they change nothing", WholeEdgesTest::refusedByAll);
        edge("Without a RING: STATE, where it is told, behind UNKNOWN", WholeEdgesTest::withoutRing);
        edge("the constants", WholeEdgesTest::constants);
        edge("An object is used for at most 512 calls: the last of them", WholeEdgesTest::lastCalls);
        edge("512 calls, by NIGHTS", WholeEdgesTest::manyNights);
        edge("512 calls, by RINGS", WholeEdgesTest::manyRings);
    }

    // ---- promises 25 and 26

    private static void imageWithoutRing() {
        refused("a new object", HousesThatChange::new, STATE, HousesThatChange::image);
        refused("a RING on THE PAGE", () -> page("hhh"), STATE, HousesThatChange::image);
        refused("a RING that was none", () -> {
            HousesThatChange x = page("hh");
            x.ring();
            return x;
        }, STATE, HousesThatChange::image);
        HousesThatChange x = page("hhh");
        x.image();
        x.ring();
        due("a refused one keeps none", x.restore(), STATE);
    }

    private static void imageNights() {
        HousesThatChange x = ring("hhf");
        due("none", x.image(), 0);
        x.night(1, 0);
        due("one by which nothing changed", x.image(), 1);
        x.nights(60, 0);
        due("by THE SEED, too", x.image(), 61);
        due("again", x.image(), 61);
        x.night(3, 0);
        due("a refused one is none", x.image(), 61);
        HousesThatChange y = houses(4);
        y.image();
        same("nothing else changes", restored(y), restored(imaged(houses(4))));
        HousesThatChange z = lived();
        z.seed(5);
        z.image();
        due("THE SEED stays", z.count(3), 5);
        due("THE PAGE stays", z.count(4), 3);
        due("THE AIM stays", z.house(4, 3), 0);
    }

    private static HousesThatChange imaged(HousesThatChange x) {
        x.image();
        return x;
    }

    private static HousesThatChange restored(HousesThatChange x) {
        x.restore();
        return x;
    }

    private static void imageLatest() {
        HousesThatChange x = houses(5);
        x.image();
        x.night(0, 0);
        x.image();
        x.night(1, 0);
        due("the second", x.restore(), 1);
        order(x, "10234");
        due("no first one behind it", x.restore(), 1);
        x.night(2, 0);
        due("one kept behind a restore", x.image(), 2);
        x.night(3, 0);
        due("is the latest", x.restore(), 2);
        order(x, "10324");
    }

    private static void restoreNone() {
        refused("a new object", HousesThatChange::new, STATE, HousesThatChange::restore);
        refused("a RING", () -> ring("hhh"), STATE, HousesThatChange::restore);
        refused("a RING with NIGHTS", () -> went("hhhh", "012"), STATE, HousesThatChange::restore);
        refused("an image() that was refused", () -> {
            HousesThatChange x = page("hhh");
            x.image();
            x.ring();
            return x;
        }, STATE, HousesThatChange::restore);
    }

    private static Start keptThenRead(String text) {
        return () -> {
            HousesThatChange x = imaged(went("hhhh;01", "01"));
            write(x, text);
            x.ring();
            return x;
        };
    }

    private static void restoreOfOldRing() {
        refused("of the same text", keptThenRead("hhhh;01"), STATE, HousesThatChange::restore);
        refused("of another text", keptThenRead("hhh"), STATE, HousesThatChange::restore);
        due("a text that is none", keptThenRead("hhhh;0").made().restore(), 2);
        HousesThatChange x = keptThenRead("hhhh;01").made();
        x.restore();
        order(x, "0123");
        due("one of the new RING", x.image(), 0);
        x.night(3, 0);
        due("leads back to it", x.restore(), 0);
        order(x, "0123");
    }

    private static void restoreNights() {
        HousesThatChange x = imaged(houses(3));
        x.nights(60, 0);
        due("none", x.restore(), 0);
        due("count(2)", x.count(2), 0);
        x.nights(7, 0);
        x.image();
        due("at once", x.restore(), 7);
        x.night(0, 0);
        due("fewer than there were", x.restore(), 7);
        due("count(2)", x.count(2), 7);
        due("and one more", x.night(0, 0), 1);
        due("count(2)", x.count(2), 8);
    }

    private static void restoreAgain() {
        HousesThatChange x = imaged(went("hhhhhh", "024"));
        for (int i = 0; i < 6; i++) {
            x.night(i, 0);
            x.seed(i);
            due("time " + i, x.restore(), 3);
            order(x, "103254");
            due("THE SEED", x.count(3), 1);
            due("the PLACE ahead", x.house(5, 2), 5);
        }
        HousesThatChange y = imaged(went("hhhhhh", "024"));
        y.nights(9, 1);
        y.restore();
        same("as it was", y, imaged(went("hhhhhh", "024")));
    }

    private static void keepsOrder() {
        HousesThatChange x = imaged(went("hhhhhh", "5"));
        for (int die = 0; die < 6; die++) {
            x.night(die, 0);
        }
        x.restore();
        order(x, "512340");
        due("WAYS of it", x.ways(1), 1);
        due("MUST of it", x.must(1), 32);
    }

    private static void keepsAhead() {
        HousesThatChange x = imaged(went("hhhhhh", "50"));
        x.night(3, 0);
        due("ahead", x.house(3, 2), 3);
        x.restore();
        due("the PLACE of 5 ahead", x.house(5, 2), 0);
        due("the PLACE of 0 ahead", x.house(0, 2), 5);
        due("joins()", x.joins(), 2);
        due("walk(5)", x.walk(5), 1);
        HousesThatChange none = imaged(houses(6));
        none.night(0, 0);
        none.restore();
        due("without a NIGHT", none.joins(), 0);
        due("the PLACE ahead without one", none.house(0, 2), 0);
    }

    private static void keepsSeed() {
        for (int seed : new int[] {0, 1, 77, MAX}) {
            HousesThatChange x = houses(6);
            x.seed(seed);
            x.image();
            x.nights(3, 0);
            x.restore();
            due("THE SEED", x.count(3), seed);
            x.seed(5);
            x.restore();
            due("behind seed()", x.seed(9), seed);
        }
        HousesThatChange x = houses(6);
        x.image();
        int first = x.nights(5, 0);
        int drawn = x.count(3);
        x.restore();
        due("the same NIGHTS", x.nights(5, 0), first);
        due("the same draws", x.count(3), drawn);
    }

    private static void keepsNothingElse() {
        HousesThatChange x = imaged(aimed("hhhh;01", "1032"));
        write(x, "0123");
        x.aim();
        write(x, "abc");
        x.restore();
        due("THE AIM", x.house(0, 3), 0);
        due("FEWEST", x.fewest(), 0);
        due("THE PAGE", x.count(4), 3);
        due("RINGS that were read", x.count(5), 1);
        due("FEUDS", x.count(1), 1);
        HousesThatChange y = imaged(ring("hhhh"));
        y.night(0, 0);
        write(y, "1023");
        y.aim();
        y.restore();
        due("an AIM that came since", y.fewest(), 1);
    }

    // ---- promise 27

    private static void counts() {
        takes("count()", HousesThatChange::new, 0, 5, OUTSIDE, HousesThatChange::count);
        takes("count() of all", Check::lived, 0, 5, OUTSIDE, HousesThatChange::count);
        HousesThatChange x = lived();
        int[] due = {5, 2, 5, x.count(3), 3, 1};
        for (int what = 0; what < 6; what++) {
            due("count(" + what + ")", x.count(what), due[what]);
        }
    }

    private static void countHouses() {
        due("no RING", page("hhh").count(0), 0);
        for (int houses = 3; houses <= 6; houses++) {
            due(houses + " of all KINDS", ring("wefhwe".substring(0, houses)).count(0), houses);
        }
        HousesThatChange x = houses(6);
        write(x, "hh");
        x.ring();
        due("a RING that was refused", x.count(0), 6);
        write(x, "h");
        x.ring();
        due("another one", x.count(0), 3);
    }

    private static void countFeuds() {
        due("no RING", page("hhh;01").count(1), 0);
        due("none", houses(6).count(1), 0);
        due("one", ring("hhh;20").count(1), 1);
        due("six", ring("hhhh;01,02,03,12,13,23").count(1), 6);
        due("told twice", ring("hhh;01,01").count(1), 1);
        due("told back", ring("hhh;01,10").count(1), 1);
        due("one told six times", ring("hhh;01,10,01,10,01,10").count(1), 1);
        due("three told six times", ring("hhh;01,12,20,10,21,02").count(1), 3);
        due("with EMPTY ones", ring("eeh;01,12").count(1), 2);
        HousesThatChange x = ring("hhh;01,12");
        write(x, "hhh;01");
        x.ring();
        due("those of another RING", x.count(1), 1);
    }

    private static void countNights() {
        HousesThatChange x = ring("hff");
        due("none", x.count(2), 0);
        x.night(0, 0);
        due("one by which nothing changed", x.count(2), 1);
        x.night(-1, 0);
        x.night(0, 2);
        x.nights(61, 0);
        due("refused ones", x.count(2), 1);
        x.nights(60, 1);
        due("by THE SEED", x.count(2), 61);
        x.apart(5, 0);
        x.choose(0, 5);
        x.ways(12);
        x.odds(0, 0, 8, 0);
        due("those that are asked for", x.count(2), 61);
    }

    private static void countSeed() {
        due("a new object", new HousesThatChange().count(3), 1);
        HousesThatChange x = houses(3);
        x.night(0, 0);
        due("a NIGHT draws none", x.count(3), 1);
        x.seed(0);
        due("the least", x.count(3), 0);
        x.seed(MAX);
        due("the greatest", x.count(3), MAX);
    }

    private static void countLetters() {
        HousesThatChange x = new HousesThatChange();
        due("an empty PAGE", x.count(4), 0);
        write(x, FULL_PAGE);
        due("a full PAGE", x.count(4), 26);
        x.letters('x');
        due("one that was refused", x.count(4), 26);
        x.ring();
        due("a RING that was refused", x.count(4), 26);
        x.blank();
        due("an emptied PAGE", x.count(4), 0);
    }

    private static void countReadings() {
        HousesThatChange x = new HousesThatChange();
        due("none", x.count(5), 0);
        for (int i = 1; i <= 5; i++) {
            x.ring();
            due("refused ones", x.count(5), i - 1);
            write(x, "hhh");
            x.ring();
            due("the same text, too", x.count(5), i);
            write(x, "012");
            x.aim();
            x.image();
            x.restore();
            due("no others", x.count(5), i);
        }
    }

    // ---- promise 28

    /** The digest of these numbers, worked out without wrapping, and its rest taken in the end. */
    private static long mixed(List<Long> numbers) {
        BigInteger h = BigInteger.valueOf(571);
        for (long number : numbers) {
            h = h.multiply(BigInteger.valueOf(31)).add(BigInteger.valueOf(number));
        }
        return h.longValue();
    }

    private static List<Long> numbersOf(HousesThatChange x, String page, boolean aimed) {
        List<Long> numbers = new ArrayList<>();
        for (int house = 0; house < x.count(0); house++) {
            for (int what = 0; what <= 3; what++) {
                numbers.add((long) x.house(house, what));
            }
            for (int other = 0; other < x.count(0); other++) {
                numbers.add((long) x.feud(house, other));
            }
            numbers.add((long) x.walk(house));
        }
        if (x.count(0) > 0) {
            numbers.addAll(List.of((long) x.touch(), (long) x.joins(), (long) x.apart(2, 0), (long) x.apart(2, 1)));
            numbers.addAll(List.of(x.ways(3), (long) x.must(3)));
        }
        if (aimed) {
            numbers.addAll(List.of((long) x.fewest(), (long) x.surely()));
        }
        for (int i = 0; i < page.length(); i++) {
            numbers.add((long) page.charAt(i));
        }
        for (int what = 0; what <= 5; what++) {
            numbers.add((long) x.count(what));
        }
        return numbers;
    }

    private static void digestOfAll(String what, HousesThatChange x, String page, boolean aimed) {
        due(what, x.digest(), mixed(numbersOf(x, page, aimed)));
    }

    private static void digestWithoutRing() {
        // 571 by 31 to the sixth, and the three counts that are not 0
        long power = 31L * 31L * 31L;
        due("a new object", new HousesThatChange().digest(), 571L * power * power + 31L * 31L);
        HousesThatChange x = new HousesThatChange();
        x.seed(0);
        due("THE SEED 0", x.digest(), 571L * power * power);
        digestOfAll("letters", page("hhh"), "hhh", false);
    }

    private static void digestOfRing() {
        for (String text : new String[] {"hhh", "hhhh;01", "wefhw;02,13", "hhhhhh;24,53,30,04"}) {
            HousesThatChange x = ring(text);
            digestOfAll(text, x, "", false);
            x.night(0, 0);
            digestOfAll(text + " behind a NIGHT", x, "", false);
            x.nights(3, 0);
            digestOfAll(text + " behind four", x, "", false);
            write(x, "hhh;");
            digestOfAll(text + " with letters", x, "hhh;", false);
        }
        HousesThatChange apart = went("hhhhhh;24,53,30,04", "1");
        due("APART of 2 NIGHTS above", apart.apart(2, 0), 19);
        due("APART of 2 NIGHTS below", apart.apart(2, 1), 36);
        digestOfAll("with APART of 2 NIGHTS", apart, "", false);
        HousesThatChange ways = went("hhhhhh;24,53,30,04", "214");
        due("WAYS of 3 NIGHTS", ways.ways(3), 3);
        due("MUST of 3 NIGHTS", ways.must(3), 22);
        digestOfAll("with WAYS of 3 NIGHTS", ways, "", false);
    }

    private static void digestOfAim() {
        digestOfAll("to an AIM", aimed("hhhhhh;01", "345012"), "", true);
        digestOfAll("of no way to it", aimed("hfh", "102"), "", true);
        digestOfAll("it is there", aimed("hfh", "012"), "", true);
        HousesThatChange x = aimed("hhh", "120");
        digestOfAll("surely", x, "", true);
        write(x, "hhh");
        digestOfAll("and letters", x, "hhh", true);
        x.ring();
        digestOfAll("it is gone", x, "", false);
    }

    private static void digestOfPages() {
        String all = "\u0001~" + FULL_PAGE.substring(2);
        for (int letters = 0; letters <= 26; letters++) {
            String text = all.substring(0, letters);
            digestOfAll(letters + " letters", page(text), text, false);
        }
        HousesThatChange x = page(FULL_PAGE);
        x.blank();
        write(x, "~");
        digestOfAll("of a PAGE that was full", x, "~", false);
    }

    private static void digestWraps() {
        HousesThatChange full = page(FULL_PAGE);
        digestOfAll("a full PAGE", full, FULL_PAGE, false);
        HousesThatChange x = aimed("hhhhhh;01,12,23,34,45,50", "543210");
        x.seed(MAX);
        write(x, FULL_PAGE);
        digestOfAll("the most that it can tell", x, FULL_PAGE, true);
    }

    private static void digestChangesNothing() {
        HousesThatChange x = lived();
        long digest = x.digest();
        due("again", x.digest(), digest);
        same("all", x, lived());
        same("of a new one", digested(new HousesThatChange()), new HousesThatChange());
    }

    private static HousesThatChange digested(HousesThatChange x) {
        x.digest();
        return x;
    }

    // ---- refusals, and 512 calls

    private static void refusedByAll() {
        Start[] starts = {Check::lived, Check::livedWithFullPage, () -> restored(lived()), () -> went("fww;01,02", "012")};
        for (int i = 0; i < starts.length; i++) {
            String what = "start " + i + ", ";
            refused(what + "letters", starts[i], OUTSIDE, x -> x.letters(255));
            refused(what + "fault", starts[i], OUTSIDE, x -> x.fault(2));
            refused(what + "ring", starts[i], STATE, HousesThatChange::ring);
            refused(what + "aim", starts[i], STATE, HousesThatChange::aim);
            refused(what + "letter", starts[i], STATE, HousesThatChange::letter);
            refused(what + "house", starts[i], UNKNOWN, x -> x.house(5, 1));
            refused(what + "house, what", starts[i], OUTSIDE, x -> x.house(2, 4));
            refused(what + "as", starts[i], UNKNOWN, x -> x.as(5, 1));
            refused(what + "as, kind", starts[i], OUTSIDE, x -> x.as(2, 4));
            refused(what + "at", starts[i], UNKNOWN, x -> x.at(5));
            refused(what + "feud", starts[i], UNKNOWN, x -> x.feud(0, 5));
            refused(what + "walk", starts[i], UNKNOWN, x -> x.walk(5));
            refusedNights(what, starts[i]);
        }
    }

    private static void refusedNights(String what, Start start) {
        refused(what + "night", start, UNKNOWN, x -> x.night(5, 0));
        refused(what + "night, choice", start, OUTSIDE, x -> x.night(2, 2));
        refused(what + "nights", start, OUTSIDE, x -> x.nights(61, 0));
        refused(what + "nights, rule", start, OUTSIDE, x -> x.nights(60, 2));
        refused(what + "seed", start, OUTSIDE, x -> x.seed(-1));
        refused(what + "apart", start, OUTSIDE, x -> x.apart(6, 0));
        refused(what + "apart, part", start, OUTSIDE, x -> x.apart(5, 2));
        refused(what + "choose", start, UNKNOWN, x -> x.choose(5, 5));
        refused(what + "choose, nights", start, OUTSIDE, x -> x.choose(2, 6));
        refused(what + "odds", start, UNKNOWN, x -> x.odds(5, 0, 8, 0));
        refused(what + "odds, place", start, UNKNOWN, x -> x.odds(0, 5, 8, 0));
        refused(what + "odds, nights", start, OUTSIDE, x -> x.odds(0, 0, 9, 0));
        refused(what + "odds, part", start, OUTSIDE, x -> x.odds(0, 0, 8, 2));
        refused(what + "ways", start, OUTSIDE, x -> x.ways(13));
        refused(what + "must", start, OUTSIDE, x -> x.must(13));
        refused(what + "count", start, OUTSIDE, x -> x.count(6));
    }

    private static void withoutRing() {
        Call[] state = {HousesThatChange::ring, HousesThatChange::aim, HousesThatChange::letter, HousesThatChange::touch,
            HousesThatChange::joins, x -> x.nights(1, 0), x -> x.apart(0, 0), HousesThatChange::fewest,
            HousesThatChange::surely, x -> x.ways(0), x -> x.must(0), HousesThatChange::image, HousesThatChange::restore};
        Call[] unknown = {x -> x.house(0, 0), x -> x.as(0, 0), x -> x.at(0), x -> x.feud(0, 1), x -> x.walk(0),
            x -> x.night(0, 0), x -> x.choose(0, 1), x -> x.odds(0, 0, 0, 0)};
        for (String text : new String[] {"", "x", "012x", FULL_PAGE}) {
            for (int i = 0; i < state.length; i++) {
                refused("call " + i + " with " + text, () -> page(text), STATE, state[i]);
            }
            for (int i = 0; i < unknown.length; i++) {
                refused("call of a number " + i + " with " + text, () -> page(text), UNKNOWN, unknown[i]);
            }
        }
    }

    private static void constants() {
        due("NONE", HousesThatChange.NONE, NONE);
        due("UNKNOWN", HousesThatChange.UNKNOWN, UNKNOWN);
        due("OUTSIDE", HousesThatChange.OUTSIDE, OUTSIDE);
        due("STATE", HousesThatChange.STATE, STATE);
        due("FULL", HousesThatChange.FULL, FULL);
    }

    private static void lastCalls() {
        HousesThatChange x = ring("hhhhhh;24,53,30,04");
        // letters() three times and ring() were the first four
        for (int call = 5; call <= 508; call++) {
            due("ways(12)", x.ways(12), 19197984);
        }
        due("must(12)", x.must(12), 0);
        due("apart(5, 0)", x.apart(5, 0), 1441);
        due("odds(0, 3, 8, 1)", x.odds(0, 3, 8, 1), 8748);
        due("choose(0, 5)", x.choose(0, 5), 1);
    }

    private static void manyNights() {
        HousesThatChange x = ring("hhhhhh;24,53,30,04");
        long seed = 1;
        for (int i = 1; i <= 500; i++) {
            x.nights(60, i % 2);
            for (int night = 0; night < 60; night++) {
                seed = (1103515245L * seed + 12345L) % (1L << 31);
            }
        }
        due("THE SEED", x.count(3), seed);
        due("count(2)", x.count(2), 30000);
        due("image()", x.image(), 30000);
        due("restore()", x.restore(), 30000);
    }

    private static void manyRings() {
        HousesThatChange x = new HousesThatChange();
        String[] texts = {"hhhhhh", "hhh;01", "wfeh", "hhhhh;02", "hhhfhh"};
        int[] apart = {1, 0, 1, 1, 1};
        for (int i = 1; i <= 125; i++) {
            int text = i % texts.length;
            x.letters(packed(texts[text]));
            due("RING " + i, x.ring(), housesOf(texts[text]));
            due("its APART", x.apart(5, 0), apart[text]);
            due("its WAYS of none", x.ways(0), 1);
        }
        due("count(5)", x.count(5), 125);
    }
}

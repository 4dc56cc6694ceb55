/** Promises 15 to 24, and what the terms say of nights: a test for each sentence that names a boundary. */
public final class NightEdgesTest extends Check {
    public static void main(String[] args) {
        promises15To17();
        promises18And19();
        promises20And21();
        promise22();
        promises23And24();
        finish("the edges of nights hold");
    }

    private static void promises15To17() {
        edge("15: UNKNOWN: die", NightEdgesTest::unknownDie);
        edge("15: OUTSIDE: choice (-1, 0, 1)", NightEdgesTest::choices);
        edge("15: UNKNOWN ahead of OUTSIDE", NightEdgesTest::nightRefusals);
        edge("A NIGHT: the HOUSES in PLACE p, that is DIE and CHOICE, and in the next one", NightEdgesTest::changes);
        edge("A NIGHT: Behind the last PLACE comes 0", NightEdgesTest::changesRound);
        edge("A NIGHT: unless one of them is FIXED", NightEdgesTest::fixedOnes);
        edge("15: whether something changed (1, 0): a NIGHT it is", NightEdgesTest::stillNights);
        edge("16: nights (1 to 60)", NightEdgesTest::howManyNights);
        edge("16: rule (0, 1)", NightEdgesTest::rules);
        edge("16: STATE, ahead of OUTSIDE", NightEdgesTest::nightsRefusals);
        edge("16: behind how many of them FEUDS TOUCH", NightEdgesTest::touchedNights);
        edge("DRAWS: its rest by 2 to the 31", NightEdgesTest::seedRests);
        edge("DRAWS: by 65536 (rounded down), its rest by how many HOUSES", NightEdgesTest::dieRests);
        edge("NIGHTS: By RULE 0 the CHOICE is 0", NightEdgesTest::byRuleNone);
        edge("NIGHTS: by RULE 1 that of CHOOSE for 2 NIGHTS", NightEdgesTest::byRuleOfChoose);
        edge("17: OUTSIDE: below 0", NightEdgesTest::seeds);
        edge("17: OUTSIDE alone", NightEdgesTest::seedWithoutRing);
    }

    private static void promises18And19() {
        edge("18: nights (0 to 5)", NightEdgesTest::apartNights);
        edge("18: part 0 above, 1 below", NightEdgesTest::apartParts);
        edge("18: STATE, ahead of OUTSIDE", NightEdgesTest::apartRefusals);
        edge("18: in lowest terms", NightEdgesTest::apartLowest);
        edge("APART: never TOUCH, now", NightEdgesTest::apartNow);
        edge("APART: and behind each of these NIGHTS", NightEdgesTest::apartBehindEach);
        edge("APART: surely, and never", NightEdgesTest::apartSurelyAndNever);
        edge("19: UNKNOWN: die", NightEdgesTest::chooseUnknown);
        edge("19: nights (1 to 5)", NightEdgesTest::chooseNights);
        edge("19: UNKNOWN ahead of OUTSIDE", NightEdgesTest::chooseRefusals);
        edge("19: for so many NIGHTS, this one first", NightEdgesTest::chooseThisOneFirst);
        edge("CHOOSE: of like ones the least", NightEdgesTest::likeChoices);
        edge("CHOOSE: behind the last PLACE comes 0", NightEdgesTest::chooseRound);
        edge("CHOOSE: by which it is likeliest for the NIGHTS that are left", NightEdgesTest::chooseThoughTheyTouch);
    }

    private static void promises20And21() {
        edge("20: STATE: no AIM, too", () -> withoutAim(HousesThatChange::fewest));
        edge("20: THE AIM is the ORDER now", NightEdgesTest::fewestOfNone);
        edge("20: NONE: it never can", NightEdgesTest::fewestNever);
        edge("FEWEST: the most that can be", NightEdgesTest::fewestMost);
        edge("FEWEST: behind the last PLACE comes 0", NightEdgesTest::fewestRound);
        edge("FEWEST: the ORDER now", NightEdgesTest::fewestNow);
        edge("THE AIM: all HOUSES once: the last ORDER of all", NightEdgesTest::lastOrder);
        edge("21: STATE: no AIM, too", () -> withoutAim(HousesThatChange::surely));
        edge("SURELY: THE AIM now", NightEdgesTest::surelyNow);
        edge("SURELY: the least N", NightEdgesTest::surelyLeast);
        edge("21: NONE: by no N", NightEdgesTest::surelyNever);
    }

    private static void promise22() {
        edge("22: UNKNOWN: house, place", NightEdgesTest::oddsUnknown);
        edge("22: nights (0 to 8)", NightEdgesTest::oddsNights);
        edge("22: part", NightEdgesTest::oddsParts);
        edge("22: UNKNOWN ahead of OUTSIDE", NightEdgesTest::oddsRefusals);
        edge("22: in lowest terms", NightEdgesTest::oddsLowest);
        edge("ODDS: behind no NIGHTS", NightEdgesTest::oddsNow);
        edge("ODDS: behind the last PLACE comes 0", NightEdgesTest::oddsRound);
        edge("ODDS: FIXED ones", NightEdgesTest::oddsOfFixed);
    }

    private static void promises23And24() {
        edge("23: nights (0 to 12)", NightEdgesTest::waysNights);
        edge("23: STATE, ahead of OUTSIDE", NightEdgesTest::waysRefusals);
        edge("WAYS: of no NIGHTS", NightEdgesTest::waysOfNone);
        edge("WAYS: in each of which something changes", NightEdgesTest::waysOfChanges);
        edge("WAYS: the ORDER at first (of THE RING)", NightEdgesTest::waysFromTheFirst);
        edge("24: nights (0 to 12)", NightEdgesTest::mustNights);
        edge("24: STATE, ahead of OUTSIDE", NightEdgesTest::mustRefusals);
        edge("MUST: 0: there are none", NightEdgesTest::mustOfNone);
        edge("MUST: the PLACES p that are in all these rows, as bits", NightEdgesTest::mustBits);
    }

    // ---- promise 15

    private static void unknownDie() {
        for (int houses = 3; houses <= 6; houses++) {
            int all = houses;
            for (int choice = -1; choice <= 1; choice++) {
                int chosen = choice;
                takes("night of " + houses + " by " + choice, () -> houses(all), 0, houses - 1, UNKNOWN,
                    (x, die) -> x.night(die, chosen));
            }
        }
    }

    private static void choices() {
        for (int houses = 3; houses <= 6; houses++) {
            int all = houses;
            takes("night(0, ..) of " + houses, () -> houses(all), -1, 1, OUTSIDE, (x, choice) -> x.night(0, choice));
            takes("night(last, ..) of " + houses, () -> houses(all), -1, 1, OUTSIDE,
                (x, choice) -> x.night(all - 1, choice));
        }
    }

    private static void nightRefusals() {
        refused("both below", Check::lived, UNKNOWN, x -> x.night(-1, -2));
        refused("both above", Check::lived, UNKNOWN, x -> x.night(5, 2));
        refused("the CHOICE alone", Check::lived, OUTSIDE, x -> x.night(4, 2));
        refused("without a RING", HousesThatChange::new, UNKNOWN, x -> x.night(0, 0));
        refused("without a RING, OUTSIDE", () -> page("hhh"), UNKNOWN, x -> x.night(0, 2));
        refused("a sum that is a PLACE", Check::lived, UNKNOWN, x -> x.night(5, -1));
        refused("a sum that is 0", Check::lived, UNKNOWN, x -> x.night(-1, 1));
    }

    private static String changed(int houses, int place) {
        StringBuilder order = new StringBuilder(first(houses));
        int next = place == houses - 1 ? 0 : place + 1;
        order.setCharAt(place, (char) ('0' + next));
        order.setCharAt(next, (char) ('0' + place));
        return order.toString();
    }

    private static void changes() {
        for (int houses = 3; houses <= 6; houses++) {
            for (int die = 1; die < houses - 1; die++) {
                for (int choice = -1; choice <= 1; choice++) {
                    HousesThatChange x = houses(houses);
                    due("something changed", x.night(die, choice), 1);
                    order(x, changed(houses, die + choice));
                }
            }
        }
    }

    private static void changesRound() {
        for (int houses = 3; houses <= 6; houses++) {
            int last = houses - 1;
            int[][] nights = {{0, -1, last}, {0, 0, 0}, {0, 1, 1}, {last, -1, last - 1}, {last, 0, last}, {last, 1, 0}};
            for (int[] night : nights) {
                HousesThatChange x = houses(houses);
                due("night(" + night[0] + ", " + night[1] + ")", x.night(night[0], night[1]), 1);
                order(x, changed(houses, night[2]));
            }
        }
    }

    private static void fixedOnes() {
        for (int houses = 3; houses <= 6; houses++) {
            for (int fixed = 0; fixed < houses; fixed++) {
                for (char letter : new char[] {'f', 'w'}) {
                    StringBuilder text = new StringBuilder("heheee".substring(0, houses));
                    text.setCharAt(fixed, letter);
                    besideFixed(text.toString(), fixed);
                }
            }
        }
        HousesThatChange x = ring("ffwwhe");
        due("both", x.night(0, 0), 0);
        due("both, FIXED and WELL", x.night(1, 0), 0);
        due("none", x.night(4, 0), 1);
        due("EMPTY now, and FIXED", x.night(3, 0), 0);
    }

    private static void besideFixed(String text, int fixed) {
        int houses = text.length();
        int before = fixed == 0 ? houses - 1 : fixed - 1;
        for (int die = 0; die < houses; die++) {
            HousesThatChange x = ring(text);
            boolean still = die == fixed || die == before;
            due("night(" + die + ", 0) of " + text, x.night(die, 0), still ? 0 : 1);
            order(x, still ? first(houses) : changed(houses, die));
        }
    }

    private static void stillNights() {
        HousesThatChange x = went("hfhh", "2");
        x.night(0, 0);
        due("count(2)", x.count(2), 2);
        due("the PLACE ahead of it", x.house(2, 2), 3);
        due("no JOINS of it", x.joins(), 0);
        due("THE SEED is drawn by none", x.count(3), 1);
        HousesThatChange all = ring("fff");
        for (int i = 1; i <= 9; i++) {
            due("nothing moves", all.night(i % 3, i % 3 - 1), 0);
            due("count(2)", all.count(2), i);
        }
    }

    // ---- promise 16

    private static void howManyNights() {
        for (int rule = 0; rule <= 1; rule++) {
            int by = rule;
            takes("nights(.., " + rule + ")", () -> ring("hhfhh;02,13"), 1, 60, OUTSIDE, (x, n) -> x.nights(n, by));
        }
        for (int nights : new int[] {1, 2, 59, 60}) {
            HousesThatChange x = ring("fff;01");
            due(nights + " at once", x.nights(nights, 0), nights);
            due("count(2)", x.count(2), nights);
            HousesThatChange other = ring("fff;01");
            for (int i = 0; i < nights; i++) {
                other.nights(1, 0);
            }
            same(nights + " one by one", x, other);
        }
    }

    private static void rules() {
        takes("nights(1, ..)", Check::lived, 0, 1, OUTSIDE, (x, rule) -> x.nights(1, rule));
        takes("nights(60, ..)", Check::lived, 0, 1, OUTSIDE, (x, rule) -> x.nights(60, rule));
        refused("both", Check::lived, OUTSIDE, x -> x.nights(0, 2));
    }

    private static void nightsRefusals() {
        refused("no RING", HousesThatChange::new, STATE, x -> x.nights(1, 0));
        refused("no RING, nights", HousesThatChange::new, STATE, x -> x.nights(0, 0));
        refused("no RING, rule", () -> page("hhh"), STATE, x -> x.nights(60, 2));
        refused("no RING, both", () -> page("hhh"), STATE, x -> x.nights(61, -1));
    }

    private static void touchedNights() {
        due("none", houses(6).nights(60, 0), 0);
        due("all", ring("hhh;01").nights(60, 1), 60);
        // the DIE 2, 4, 3: 3 comes to 2, 5 to 4, and 2 and 5 change places
        HousesThatChange x = ring("hhhhhh;53");
        due("ahead of them", x.touch(), 0);
        due("behind the first", x.nights(1, 0), 0);
        due("behind the second", x.nights(1, 0), 0);
        order(x, "013254");
        due("behind the third", x.nights(1, 0), 1);
        order(x, "013524");
        due("now", x.touch(), 1);
    }

    // ---- the DIE by THE SEED

    private static final int[] DRAWN_FROM_1 = {1103527590, 377401575, 662824084, 1147902781, 2035015474, 368800899,
        1508029952, 486256185, 1062517886, 267834847, 180171308, 836760821};
    /** The same by 65536. */
    private static final int[] SHOWN_FROM_1 = {16838, 5758, 10113, 17515, 31051, 5627, 23010, 7419, 16212, 4086, 2749,
        12767};

    private static void seedRests() {
        HousesThatChange x = houses(6);
        for (int drawn : DRAWN_FROM_1) {
            x.nights(1, 0);
            due("a draw from 1", x.count(3), drawn);
        }
        x.seed(0);
        x.nights(2, 0);
        due("two draws from 0", x.count(3), 1406932606);
        x.seed(0);
        x.nights(1, 1);
        due("a draw from 0", x.count(3), 12345);
        x.seed(MAX);
        x.nights(1, 1);
        due("a draw from the greatest", x.count(3), 1043980748);
        x.nights(1, 0);
        due("and the next", x.count(3), 288979989);
        for (int i = 0; i < 60; i++) {
            x.nights(1, 0);
            due("never below 0", Math.min(x.count(3), 0), 0);
        }
    }

    private static void dieRests() {
        for (int houses = 3; houses <= 6; houses++) {
            HousesThatChange x = houses(houses);
            HousesThatChange other = houses(houses);
            for (int shown : SHOWN_FROM_1) {
                x.nights(1, 0);
                other.night(shown % houses, 0);
                for (int place = 0; place < houses; place++) {
                    due("the HOUSE in " + place + " of " + houses, x.at(place), other.at(place));
                }
            }
        }
        HousesThatChange x = houses(6);
        x.seed(0);
        x.nights(1, 0);
        order(x, "102345");
        x.seed(MAX);
        x.nights(1, 0);
        // 15929 is drawn, its rest by 6 is 5
        order(x, "502341");
    }

    private static void byRuleNone() {
        HousesThatChange x = ring("hhhhhh;23");
        x.nights(1, 0);
        order(x, "013245");
        due("though FEUDS TOUCH", x.touch(), 1);
    }

    private static void byRuleOfChoose() {
        // the DIE shows 2: of like ones the least
        HousesThatChange least = houses(6);
        least.nights(1, 1);
        order(least, "021345");
        for (String text : new String[] {"hhehhh;03,04,41,53", "hhhhhh;24,53,30,04", "fhhhhh;03,35,24", "hhhhhh;52,41,15,40"}) {
            HousesThatChange x = ring(text);
            HousesThatChange other = ring(text);
            for (int shown : SHOWN_FROM_1) {
                x.nights(1, 1);
                other.night(shown % 6, other.choose(shown % 6, 2));
                for (int place = 0; place < 6; place++) {
                    due("the HOUSE in " + place + " of " + text, x.at(place), other.at(place));
                }
            }
        }
        // for 1 it were 0, for 2 it is 1, for 3 it were 0: the DIE shows 0 by 12345 from 0
        HousesThatChange two = ring("hhhhhh;24,53,30,04");
        due("choose(0, 1)", two.choose(0, 1), 0);
        due("choose(0, 2)", two.choose(0, 2), 1);
        due("choose(0, 3)", two.choose(0, 3), 0);
        two.seed(0);
        two.nights(1, 1);
        order(two, "021345");
    }

    // ---- promise 17

    private static void seeds() {
        for (int v : new int[] {0, 1, 2, 65535, 65536, 1 << 30, MAX - 1, MAX}) {
            HousesThatChange x = houses(3);
            due("seed(" + v + ")", x.seed(v), 1);
            due("count(3)", x.count(3), v);
            due("seed(5) behind it", x.seed(5), v);
        }
        for (int v : new int[] {-1, -2, -101, -65536, MIN + 1, MIN}) {
            refused("seed(" + v + ")", Check::lived, OUTSIDE, x -> x.seed(v));
        }
    }

    private static void seedWithoutRing() {
        HousesThatChange x = new HousesThatChange();
        due("seed(0)", x.seed(0), 1);
        due("seed(7)", x.seed(7), 0);
        refused("seed(-1)", HousesThatChange::new, OUTSIDE, y -> y.seed(-1));
        write(x, "hhh");
        x.ring();
        due("a RING leaves it", x.count(3), 7);
    }

    // ---- promise 18

    private static void apartNights() {
        takes("apart(.., 0)", Check::lived, 0, 5, OUTSIDE, (x, nights) -> x.apart(nights, 0));
        takes("apart(.., 1)", Check::lived, 0, 5, OUTSIDE, (x, nights) -> x.apart(nights, 1));
        // by one DIE of five all is lost
        apart("hhhhh;02,13", 1, 1, 4, 5, 16, 25, 64, 125, 256, 625, 1024, 3125);
        apart("fhhhhh;03,35,24", 1, 1, 5, 6, 7, 9, 41, 54, 61, 81, 365, 486);
        apart("hhhhhh;24,53,30,04", 1, 1, 2, 3, 19, 36, 19, 54, 179, 648, 1441, 7776);
        apart("hhhhhh;02,52,51", 1, 1, 5, 6, 23, 36, 115, 216, 655, 1296, 3815, 7776);
    }

    /** Above and below for 0, 1, .. NIGHTS, asked from the last one on and then once more from the first one on. */
    private static void apart(String ring, int... due) {
        HousesThatChange x = ring(ring);
        for (int i = 2 * due.length - 1; i >= 0; i--) {
            int asked = i >= due.length ? i - due.length : due.length - 1 - i;
            due("apart(" + asked / 2 + ", " + asked % 2 + ") of " + ring, x.apart(asked / 2, asked % 2), due[asked]);
        }
    }

    private static void apartParts() {
        takes("apart(0, ..)", Check::lived, 0, 1, OUTSIDE, (x, part) -> x.apart(0, part));
        takes("apart(5, ..)", Check::lived, 0, 1, OUTSIDE, (x, part) -> x.apart(5, part));
        refused("both", Check::lived, OUTSIDE, x -> x.apart(6, 2));
    }

    private static void apartRefusals() {
        refused("no RING", HousesThatChange::new, STATE, x -> x.apart(0, 0));
        refused("no RING, nights", HousesThatChange::new, STATE, x -> x.apart(6, 0));
        refused("no RING, part", () -> page("hhh"), STATE, x -> x.apart(5, 2));
        refused("no RING, both", () -> page("hhh"), STATE, x -> x.apart(-1, -1));
    }

    private static void apartLowest() {
        apart("hhhhh;01", 0, 1, 0, 1, 0, 1, 0, 1, 0, 1, 0, 1);
        apart("hhhhhh", 1, 1, 1, 1, 1, 1, 1, 1, 1, 1, 1, 1);
        apart("hhhhhh;02,13", 1, 1, 5, 6, 5, 6, 5, 6, 5, 6, 5, 6);
    }

    private static void apartNow() {
        apart("hhhhh;02", 1, 1, 1, 1);
        HousesThatChange x = went("hhhhh;02", "0");
        due("they TOUCH now", x.touch(), 1);
        for (int nights = 0; nights <= 5; nights++) {
            due("above, " + nights, x.apart(nights, 0), 0);
            due("below, " + nights, x.apart(nights, 1), 1);
        }
        x.night(0, 0);
        due("not now", x.apart(0, 0), 1);
        due("nor behind NIGHTS", x.apart(5, 0), 1);
    }

    private static void apartBehindEach() {
        // of four, each change brings those together that stood two PLACES apart; the next one parts them again
        apart("hhhh;02", 1, 1, 0, 1, 0, 1);
        // but those beside a FIXED one need not change
        apart("hhhf;02", 1, 1, 1, 1, 1, 1);
    }

    private static void apartSurelyAndNever() {
        apart("hhh", 1, 1, 1, 1, 1, 1, 1, 1, 1, 1, 1, 1);
        apart("hhh;01", 0, 1, 0, 1, 0, 1, 0, 1, 0, 1, 0, 1);
        apart("ehh;01,02", 1, 1, 1, 1, 1, 1, 1, 1, 1, 1, 1, 1);
        apart("fff;01", 0, 1, 0, 1, 0, 1, 0, 1, 0, 1, 0, 1);
        apart("hhfhwh;02,13", 1, 1, 1, 1, 1, 1, 1, 1, 1, 1, 1, 1);
    }

    // ---- promise 19

    private static void chooseUnknown() {
        for (int houses = 3; houses <= 6; houses++) {
            int all = houses;
            takes("choose(.., 1) of " + houses, () -> houses(all), 0, houses - 1, UNKNOWN, (x, die) -> x.choose(die, 1));
            takes("choose(.., 5) of " + houses, () -> houses(all), 0, houses - 1, UNKNOWN, (x, die) -> x.choose(die, 5));
        }
    }

    private static void chooseNights() {
        takes("choose(0, ..)", Check::lived, 1, 5, OUTSIDE, (x, nights) -> x.choose(0, nights));
        takes("choose(4, ..)", Check::lived, 1, 5, OUTSIDE, (x, nights) -> x.choose(4, nights));
        choose("hhehhh;03,04,41,53", 0, 0, 1, 1, 1, 1);
        choose("hhehhh;03,04,41,53", 1, -1, 0, 1, 0, 1);
        choose("hhehhh;03,04,41,53", 2, -1, -1, 0, -1, 0);
        choose("hhehhh;03,04,41,53", 3, -1, -1, -1, -1, -1);
        choose("hhehhh;03,04,41,53", 5, 1, 1, 1, 1, 1);
        choose("hhhhhh;24,53,30,04", 0, 0, 1, 0, 1, 1);
        choose("hhhhhh;24,53,30,04", 1, -1, 0, -1, 0, 0);
        choose("hhhhhh;02,52,51", 2, 0, 1, 0, 0, 0);
        choose("hhhhhh;02,52,51", 4, -1, -1, -1, 0, 0);
    }

    /** The CHOICE for 1 to 5 NIGHTS, asked once from the last one on and once from the first one on. */
    private static void choose(String ring, int die, int... due) {
        HousesThatChange x = ring(ring);
        for (int nights = 5; nights >= 1; nights--) {
            due("choose(" + die + ", " + nights + ") of " + ring, x.choose(die, nights), due[nights - 1]);
        }
        HousesThatChange y = ring(ring);
        for (int nights = 1; nights <= 5; nights++) {
            due("choose(" + die + ", " + nights + ") of " + ring, y.choose(die, nights), due[nights - 1]);
        }
    }

    private static void chooseRefusals() {
        refused("both below", Check::lived, UNKNOWN, x -> x.choose(-1, 0));
        refused("both above", Check::lived, UNKNOWN, x -> x.choose(5, 6));
        refused("without a RING", HousesThatChange::new, UNKNOWN, x -> x.choose(0, 1));
        refused("without a RING, OUTSIDE", () -> page("hhh"), UNKNOWN, x -> x.choose(0, 0));
    }

    private static void chooseThisOneFirst() {
        // by the DIE 2 only a change in 3 keeps both apart; no NIGHT is left behind this one
        choose("hhhhh;02,13", 2, 1, 1, 1, 1, 1);
        choose("hhhhh;02,13", 3, 0, 0, 0, 0, 0);
        choose("hhhhh;02,13", 4, -1, -1, -1, -1, -1);
        HousesThatChange x = ring("hhhhh;02,13");
        x.choose(0, 5);
        same("nothing changes", x, ring("hhhhh;02,13"));
    }

    private static void likeChoices() {
        for (int die = 0; die < 6; die++) {
            choose("hhhhhh", die, -1, -1, -1, -1, -1);
            choose("hhhhhh;03", die, -1, -1, -1, -1, -1);
            choose("ffffff;02", die, -1, -1, -1, -1, -1);
        }
        // 0 and 2 come together by a change in 0 or in 1 alone
        choose("hhhhh;02", 0, -1, -1, -1, -1, -1);
        choose("hhhhh;02", 1, 1, 1, 1, 1, 1);
        choose("hhhhh;02", 2, 0, 0, 0, 0, 0);
        choose("hhhhh;02", 3, -1, -1, -1, -1, -1);
        choose("hhhhh;02", 4, -1, -1, -1, -1, -1);
        // all is lost by each CHOICE
        for (int die = 0; die < 4; die++) {
            choose("hhhh;02", die, -1, -1, -1, -1, -1);
        }
    }

    private static void chooseRound() {
        // FEUDS stay apart by a change in 4 or in 0 alone, and then by one in 0 or in 1 alone
        int[] last = {-1, -1, -1, 1, 0};
        int[] none = {0, -1, -1, -1, 1};
        for (int die = 0; die < 5; die++) {
            choose("hhhhh;13,24", die, last[die], last[die], last[die], last[die], last[die]);
            choose("hhhhh;24,30", die, none[die], none[die], none[die], none[die], none[die]);
        }
    }

    /** What TOUCHES now is none of the NIGHTS that are left. */
    private static void chooseThoughTheyTouch() {
        // 0 and 1 are parted by a change in 4 or in 1 alone
        int[] due = {-1, 0, -1, 1, 0};
        for (int die = 0; die < 5; die++) {
            choose("hhhhh;01", die, due[die], due[die], due[die], due[die], due[die]);
            choose("ffffff;01", die, -1, -1, -1, -1, -1);
            choose("hhhhhh;01,02,03,04,05,12", die, -1, -1, -1, -1, -1);
        }
    }

    // ---- promises 20 and 21

    private static void withoutAim(Call call) {
        refused("no RING", HousesThatChange::new, STATE, call);
        refused("no RING, letters on THE PAGE", () -> page("012"), STATE, call);
        refused("no AIM", () -> ring("hhh"), STATE, call);
        refused("no AIM, one on THE PAGE", () -> {
            HousesThatChange x = ring("hhh");
            write(x, "012");
            return x;
        }, STATE, call);
        refused("an AIM that was refused", () -> {
            HousesThatChange x = ring("hhh");
            write(x, "011");
            x.aim();
            return x;
        }, STATE, call);
        refused("an AIM of a RING that is gone", () -> {
            HousesThatChange x = aimed("hhh", "012");
            write(x, "hhh");
            x.ring();
            return x;
        }, STATE, call);
    }

    private static void away(String ring, String aim, int fewest, int surely) {
        HousesThatChange x = aimed(ring, aim);
        due("fewest() from " + ring + " to " + aim, x.fewest(), fewest);
        due("surely() from " + ring + " to " + aim, x.surely(), surely);
    }

    private static void fewestOfNone() {
        for (int houses = 3; houses <= 6; houses++) {
            away("wwwwww".substring(0, houses), first(houses), 0, 0);
            away("hhhhhh".substring(0, houses), first(houses), 0, 0);
            HousesThatChange x = aimed("hhhhhh".substring(0, houses), changed(houses, houses - 1));
            due("not yet", x.fewest(), 1);
            x.night(houses - 1, 0);
            due("now", x.fewest(), 0);
            x.night(houses - 1, 0);
            due("no more", x.fewest(), 1);
        }
    }

    private static void fewestNever() {
        away("fff", "021", NONE, NONE);
        away("hff", "102", NONE, NONE);
        away("hfhf", "2103", NONE, NONE);
        away("fhhh", "1023", NONE, NONE);
        away("whhh", "1230", NONE, NONE);
        away("hhfhhf", "345012", NONE, NONE);
        away("hhfhhf", "102435", 2, NONE);
        away("hhhhhw", "512340", NONE, NONE);
        away("hhhhhw", "102345", 1, NONE);
    }

    private static void fewestMost() {
        away("hhh", "120", 2, 2);
        away("hhhh", "2301", 4, NONE);
        away("hhhhh", "23401", 6, NONE);
        away("hhhhh", "34012", 6, NONE);
        away("hhhhhh", "345012", 9, NONE);
        away("hhhhhf", "432105", 10, NONE);
        away("fhhhhh", "054321", 10, NONE);
        away("hhhf", "2103", 3, NONE);
    }

    private static void fewestRound() {
        for (int houses = 3; houses <= 6; houses++) {
            away("hhhhhh".substring(0, houses), changed(houses, houses - 1), 1, houses == 3 ? 1 : NONE);
        }
        away("hhhh", "1230", 3, NONE);
        // round the last PLACE, as 1 is FIXED
        away("hfh", "210", 1, 1);
        away("hfhh", "2103", 3, NONE);
    }

    private static void fewestNow() {
        HousesThatChange x = aimed("hhhhhh", "345012");
        x.night(2, 0);
        due("one nearer", x.fewest(), 8);
        x.night(5, 0);
        due("two nearer", x.fewest(), 7);
        x.night(5, 0);
        due("one farther", x.fewest(), 8);
        write(x, "013245");
        x.aim();
        due("another AIM", x.fewest(), 0);
        due("surely", x.surely(), 0);
    }

    /** The HOUSES backwards, to which and from which much is asked. */
    private static void lastOrder() {
        String[] backwards = {"210", "3210", "43210", "543210"};
        int[] fewest = {1, 2, 4, 7};
        for (int i = 0; i < backwards.length; i++) {
            int houses = backwards[i].length();
            away("hhhhhh".substring(0, houses), backwards[i], fewest[i], houses == 3 ? 1 : NONE);
        }
        HousesThatChange x = went("hhhhhh;24,53,30,04", "012340123012010");
        order(x, "543210");
        due("apart(5, 0)", x.apart(5, 0), 1441);
        due("apart(5, 1)", x.apart(5, 1), 7776);
        due("choose(2, 5)", x.choose(2, 5), 1);
        due("choose(3, 5)", x.choose(3, 5), 0);
        due("ways(6)", x.ways(6), 0);
        due("ways(7)", x.ways(7), 224);
        due("must(7)", x.must(7), 36);
        due("ways(11)", x.ways(11), 732160);
        due("must(11)", x.must(11), 36);
    }

    private static void surelyNow() {
        away("hhhhhh", "012345", 0, 0);
        away("fff", "012", 0, 0);
        HousesThatChange x = aimed("hhhh", "1023");
        due("not yet", x.surely(), NONE);
        x.night(0, 0);
        due("now", x.surely(), 0);
        x.night(0, 0);
        due("no more", x.surely(), NONE);
    }

    private static void surelyLeast() {
        away("hhh", "021", 1, 1);
        away("hhh", "102", 1, 1);
        away("hhh", "210", 1, 1);
        away("hhh", "120", 2, 2);
        away("hhh", "201", 2, 2);
        away("hhf", "102", 1, 1);
        away("fhh", "021", 1, 1);
        away("wew", "012", 0, 0);
        for (String places : new String[] {"", "0", "1", "2", "01", "10"}) {
            for (String aim : new String[] {"012", "102", "021", "210", "201", "120"}) {
                leastOfThree(places, aim);
            }
        }
    }

    /** Of three one NIGHT makes an even ORDER odd, whichever it is, and each odd one is beside each even one. */
    private static void leastOfThree(String places, String aim) {
        HousesThatChange x = went("hhh", places);
        write(x, aim);
        x.aim();
        boolean there = x.house(0, 1) == x.house(0, 3) && x.house(1, 1) == x.house(1, 3);
        boolean odd = aim.equals("102") || aim.equals("021") || aim.equals("210");
        int due = there ? 0 : odd == (places.length() == 1) ? 2 : 1;
        due("fewest() behind " + places + " to " + aim, x.fewest(), due);
        due("surely() behind " + places + " to " + aim, x.surely(), due);
    }

    private static void surelyNever() {
        // of four and more each change is out of the reach of some DIE
        for (int houses = 4; houses <= 6; houses++) {
            for (int place = 0; place < houses; place++) {
                away("hhhhhh".substring(0, houses), changed(houses, place), 1, NONE);
            }
        }
        away("hff", "201", NONE, NONE);
        away("hhf", "021", NONE, NONE);
    }

    // ---- promise 22

    private static void oddsUnknown() {
        for (int houses = 3; houses <= 6; houses++) {
            int all = houses;
            takes("house of " + houses, () -> houses(all), 0, houses - 1, UNKNOWN, (x, house) -> x.odds(house, 0, 1, 0));
            takes("place of " + houses, () -> houses(all), 0, houses - 1, UNKNOWN, (x, place) -> x.odds(0, place, 1, 1));
        }
    }

    private static void oddsNights() {
        takes("odds(0, 0, .., 0)", Check::lived, 0, 8, OUTSIDE, (x, nights) -> x.odds(0, 0, nights, 0));
        takes("odds(4, 4, .., 1)", Check::lived, 0, 8, OUTSIDE, (x, nights) -> x.odds(4, 4, nights, 1));
        odds("hhhhhh", 0, 0, 7, 9181, 34992);
        odds("hhhhhh", 0, 0, 8, 68729, 279936);
        odds("hhhhhh", 0, 1, 8, 10747, 52488);
        odds("hhhhhh", 0, 2, 8, 213781, 1679616);
        odds("hhhhhh", 0, 3, 8, 791, 8748);
        odds("hhhhh", 0, 2, 8, 549, 3125);
        odds("hhhh", 0, 2, 7, 63, 256);
        odds("hhhh", 0, 2, 8, 127, 512);
        // one place of three in which something changes: a half, and half of a third to the eighth
        odds("hhf", 0, 0, 8, 3281, 6561);
        odds("hhf", 0, 1, 8, 3280, 6561);
    }

    private static void odds(String ring, int house, int place, int nights, int above, int below) {
        HousesThatChange x = ring(ring);
        String what = "odds of " + house + " in " + place + " of " + ring + " behind " + nights;
        due(what + " above", x.odds(house, place, nights, 0), above);
        due(what + " below", x.odds(house, place, nights, 1), below);
    }

    private static void oddsParts() {
        takes("odds(0, 0, 0, ..)", Check::lived, 0, 1, OUTSIDE, (x, part) -> x.odds(0, 0, 0, part));
        takes("odds(0, 1, 8, ..)", Check::lived, 0, 1, OUTSIDE, (x, part) -> x.odds(0, 1, 8, part));
    }

    private static void oddsRefusals() {
        refused("all below", Check::lived, UNKNOWN, x -> x.odds(-1, -1, -1, -1));
        refused("all above", Check::lived, UNKNOWN, x -> x.odds(5, 5, 9, 2));
        refused("house", Check::lived, UNKNOWN, x -> x.odds(5, 0, 9, 0));
        refused("place", Check::lived, UNKNOWN, x -> x.odds(0, 5, 0, 2));
        refused("nights and part", Check::lived, OUTSIDE, x -> x.odds(0, 0, 9, 2));
        refused("without a RING", HousesThatChange::new, UNKNOWN, x -> x.odds(0, 0, 0, 0));
        refused("without a RING, OUTSIDE", () -> page("hhh"), UNKNOWN, x -> x.odds(0, 0, 9, 2));
    }

    private static void oddsLowest() {
        odds("hhhh", 0, 0, 1, 1, 2);
        odds("hhhh", 0, 1, 1, 1, 4);
        odds("hhhhhh", 0, 1, 2, 2, 9);
        odds("hhhhhh", 0, 5, 1, 1, 6);
        odds("hhh", 0, 0, 8, 1, 3);
        odds("hhhh", 0, 2, 1, 0, 1);
        odds("hhhhhh", 0, 3, 2, 0, 1);
        odds("hff", 0, 0, 8, 1, 1);
    }

    private static void oddsNow() {
        for (int houses = 3; houses <= 6; houses++) {
            for (int house = 0; house < houses; house++) {
                for (int place = 0; place < houses; place++) {
                    odds("hwefhe".substring(0, houses), house, place, 0, house == place ? 1 : 0, 1);
                }
            }
        }
        HousesThatChange x = went("hhhh", "3");
        due("where it stands now", x.odds(0, 3, 0, 0), 1);
        due("where it stood", x.odds(0, 0, 0, 0), 0);
        due("from there on", x.odds(0, 1, 1, 0), 0);
        due("round", x.odds(0, 0, 1, 1), 4);
    }

    private static void oddsRound() {
        for (int houses = 3; houses <= 6; houses++) {
            String text = "hhhhhh".substring(0, houses);
            odds(text, 0, houses - 1, 1, 1, houses);
            odds(text, houses - 1, 0, 1, 1, houses);
        }
        odds("hhhhhh", 0, 5, 2, 2, 9);
        odds("hhhhhh", 0, 4, 2, 1, 36);
        odds("hfh", 0, 2, 1, 1, 3);
    }

    private static void oddsOfFixed() {
        odds("fhhh", 0, 0, 8, 1, 1);
        odds("whhh", 0, 1, 8, 0, 1);
        odds("hhhf", 2, 2, 1, 3, 4);
        odds("hhhf", 0, 3, 8, 0, 1);
        odds("hhhf", 0, 1, 1, 1, 4);
        odds("fhf", 1, 1, 8, 1, 1);
    }

    // ---- promises 23 and 24

    private static void ways(String ring, String places, long... due) {
        HousesThatChange x = went(ring, places);
        for (int nights = due.length - 1; nights >= 0; nights--) {
            due("ways(" + nights + ") of " + ring + " behind " + places, x.ways(nights), due[nights]);
        }
    }

    private static void must(String ring, String places, int... due) {
        HousesThatChange x = went(ring, places);
        for (int nights = due.length - 1; nights >= 0; nights--) {
            due("must(" + nights + ") of " + ring + " behind " + places, x.must(nights), due[nights]);
        }
    }

    private static void waysNights() {
        takes("ways()", Check::lived, 0, 12, OUTSIDE, HousesThatChange::ways);
        takes("ways() of six", () -> houses(6), 0, 12, OUTSIDE, HousesThatChange::ways);
        ways("hhhhhh", "", 1, 0, 6, 0, 84, 0, 1548, 0, 32868, 0, 765636, 0, 19197984);
        ways("hhhhhh", "5", 0, 1, 0, 14, 0, 258, 0, 5478, 0, 127606, 0, 3199664, 0);
        ways("hhhhhh", "01", 0, 0, 1, 0, 25, 0, 615, 0, 15695, 0, 421324, 0, 11936754);
        ways("hhhf", "01", 0, 0, 1, 0, 5, 0, 21, 0, 85, 0, 341, 0, 1365);
        ways("hhf", "", 1, 0, 1, 0, 1, 0, 1, 0, 1, 0, 1, 0, 1);
    }

    private static void waysRefusals() {
        refused("no RING", HousesThatChange::new, STATE, x -> x.ways(0));
        refused("no RING, below", HousesThatChange::new, STATE, x -> x.ways(-1));
        refused("no RING, above", () -> page("hhh"), STATE, x -> x.ways(13));
    }

    private static void waysOfNone() {
        for (int houses = 3; houses <= 6; houses++) {
            String text = "hhhhhh".substring(0, houses);
            ways(text, "", 1, 0);
            ways(text, "0", 0, 1);
            ways(text, "00", 1, 0);
            ways("wwwwww".substring(0, houses), "12", 1, 0);
        }
    }

    private static void waysOfChanges() {
        ways("fff", "0", 1, 0, 0, 0, 0, 0, 0, 0, 0, 0, 0, 0, 0);
        ways("hfhf", "0123", 1, 0, 0, 0);
        ways("hhf", "0", 0, 1, 0, 1, 0, 1, 0, 1, 0, 1, 0, 1, 0);
        ways("hfh", "2", 0, 1, 0, 1);
        ways("hhhf", "3", 1, 0, 2, 0, 6, 0, 22, 0, 86, 0, 342, 0, 1366);
    }

    private static void waysFromTheFirst() {
        HousesThatChange x = went("hhhh", "0");
        x.image();
        x.night(1, 0);
        x.restore();
        due("not from an IMAGE", x.ways(0), 0);
        due("by one", x.ways(1), 1);
        write(x, "hhhh");
        x.ring();
        due("from another RING's", x.ways(0), 1);
        due("by two", x.ways(2), 4);
    }

    private static void mustNights() {
        takes("must()", Check::lived, 0, 12, OUTSIDE, HousesThatChange::must);
        takes("must() of six", () -> houses(6), 0, 12, OUTSIDE, HousesThatChange::must);
        must("hhhf", "01", 0, 0, 3, 0, 3, 0, 3, 0, 3, 0, 3, 0, 3);
        must("hhhhf", "010", 0, 0, 0, 3, 0, 3, 0, 3, 0, 3, 0, 3, 0);
        must("hhf", "", 0, 0, 1, 0, 1, 0, 1, 0, 1, 0, 1, 0, 1);
    }

    private static void mustRefusals() {
        refused("no RING", HousesThatChange::new, STATE, x -> x.must(0));
        refused("no RING, below", HousesThatChange::new, STATE, x -> x.must(-1));
        refused("no RING, above", () -> page("hhh"), STATE, x -> x.must(13));
    }

    private static void mustOfNone() {
        must("hhhhhh", "", 0, 0, 0, 0, 0, 0, 0, 0, 0, 0, 0, 0, 0);
        must("fff", "0", 0, 0, 0, 0, 0, 0, 0, 0, 0, 0, 0, 0, 0);
        must("hhhhhh", "2", 0, 4, 0, 4, 0, 4, 0, 4, 0, 0, 0, 0, 0);
        due("rows, and no PLACE in all of them", went("hhhhhh", "2").ways(9) > 0 ? 1 : 0, 1);
    }

    private static void mustBits() {
        for (int houses = 3; houses <= 6; houses++) {
            for (int place = 0; place < houses; place++) {
                String text = "hhhhhh".substring(0, houses);
                due("must(1) of " + houses + " behind " + place, went(text, "" + place).must(1), 1 << place);
            }
        }
        must("hhhhhh", "50", 0, 0, 33, 0, 33, 0, 33, 0, 0, 0, 0, 0, 0);
        must("hhhhhh", "24", 0, 0, 20, 0, 20, 0, 20, 0, 20, 0, 0, 0, 0);
        must("hhhhhh", "012345", 0, 0, 0, 0, 30, 0, 0, 0, 0, 0, 0, 0, 0);
        must("hhfh", "3", 0, 8, 0, 8, 0, 8, 0, 8, 0, 8, 0, 8, 0);
    }
}

/** Promises 8 to 14, and what the terms say of houses: a test for each sentence that names a boundary. */
public final class HouseEdgesTest extends Check {
    public static void main(String[] args) {
        promises8And9();
        promises10And11();
        promise12();
        promises13And14();
        finish("the edges of houses hold");
    }

    private static void promises8And9() {
        edge("8: UNKNOWN", HouseEdgesTest::unknownHouse);
        edge("8: UNKNOWN (without a RING, too)", HouseEdgesTest::houseWithoutRing);
        edge("8: what = 0 KIND .. 3 its PLACE in THE AIM; OUTSIDE", HouseEdgesTest::whats);
        edge("8: UNKNOWN ahead of OUTSIDE", HouseEdgesTest::unknownAheadOfOutside);
        edge("8: 1 its PLACE", HouseEdgesTest::placeNow);
        edge("8: 2 its PLACE ahead of the last NIGHT", HouseEdgesTest::placeAhead);
        edge("8: 3 (NONE: there is none)", HouseEdgesTest::placeInAim);
        edge("9: A HOUSE taken as a KIND", HouseEdgesTest::asKind);
        edge("9: its own number (not that of the KIND)", HouseEdgesTest::ownNumber);
        edge("9: All are HOUSES; a WELL is FIXED, too", HouseEdgesTest::kindsOfKinds);
        edge("9: UNKNOWN; OUTSIDE", HouseEdgesTest::asRefusals);
    }

    private static void promises10And11() {
        edge("10: The HOUSE in a PLACE", HouseEdgesTest::houseInPlace);
        edge("10: UNKNOWN", HouseEdgesTest::unknownPlace);
        edge("11: Whether two HOUSES have a FEUD", HouseEdgesTest::feuds);
        edge("11: a HOUSE and itself", HouseEdgesTest::noFeudWithItself);
        edge("11: UNKNOWN: a, b", HouseEdgesTest::feudUnknown);
    }

    private static void promise12() {
        edge("12: STATE", () -> refused("touch()", HousesThatChange::new, STATE, HousesThatChange::touch));
        edge("12: none, and all", HouseEdgesTest::touchNoneAndAll);
        edge("12: told twice it counts once", HouseEdgesTest::toldTwice);
        edge("12: none of them EMPTY", HouseEdgesTest::emptyOnes);
        edge("12: beside one another: behind the last PLACE comes 0", HouseEdgesTest::touchRound);
        edge("12: as they stand now", HouseEdgesTest::touchNow);
    }

    private static void promises13And14() {
        edge("13: STATE", () -> refused("joins()", HousesThatChange::new, STATE, HousesThatChange::joins));
        edge("13: JOINS: 0 without one", HouseEdgesTest::joinsWithoutNight);
        edge("13: that did not ahead of the last NIGHT", HouseEdgesTest::joinsOfTheLastNight);
        edge("13: three stand beside one another ever", HouseEdgesTest::joinsOfThree);
        edge("13: behind the last PLACE comes 0", HouseEdgesTest::joinsRound);
        edge("13: pairs of all KINDS, with FEUDS or not", HouseEdgesTest::joinsOfKinds);
        edge("14: UNKNOWN: house", HouseEdgesTest::walkUnknown);
        edge("14: WALK: from PLACE 0, each time the shorter way round", HouseEdgesTest::shorterWay);
        edge("14: WALK: to where it stood, and from there to where it stands", HouseEdgesTest::twoWays);
        edge("14: WALK: a NIGHT by which nothing changed", HouseEdgesTest::walkOfStill);
    }

    // ---- promise 8

    private static void unknownHouse() {
        for (int houses = 3; houses <= 6; houses++) {
            String text = "wefhew".substring(0, houses);
            for (int what = 0; what <= 3; what++) {
                int asked = what;
                takes("house of " + houses + ", " + what, () -> ring(text), 0, houses - 1, UNKNOWN,
                    (x, house) -> x.house(house, asked));
            }
        }
    }

    private static void houseWithoutRing() {
        for (int what = -1; what <= 4; what++) {
            int asked = what;
            for (int house = -1; house <= 6; house++) {
                int number = house;
                refused("house " + house + ", " + what, () -> page("hhh"), UNKNOWN, x -> x.house(number, asked));
            }
        }
    }

    private static void whats() {
        takes("house(0, ..)", Check::lived, 0, 3, OUTSIDE, (x, what) -> x.house(0, what));
        takes("house(4, ..)", Check::lived, 0, 3, OUTSIDE, (x, what) -> x.house(4, what));
        HousesThatChange x = went("hhwh", "0");
        write(x, "3210");
        x.aim();
        int[][] due = {{0, 1, 0, 3}, {0, 0, 1, 2}, {3, 2, 2, 1}, {0, 3, 3, 0}};
        for (int house = 0; house < 4; house++) {
            for (int what = 0; what < 4; what++) {
                due("house(" + house + ", " + what + ")", x.house(house, what), due[house][what]);
            }
        }
    }

    private static void unknownAheadOfOutside() {
        refused("both below", Check::lived, UNKNOWN, x -> x.house(-1, -1));
        refused("both above", Check::lived, UNKNOWN, x -> x.house(5, 4));
        refused("far", Check::lived, UNKNOWN, x -> x.house(MAX, MIN));
    }

    private static void placeNow() {
        HousesThatChange x = houses(6);
        x.night(5, 0);
        due("from the last PLACE to 0", x.house(5, 1), 0);
        due("from 0 to the last PLACE", x.house(0, 1), 5);
        x.night(5, 0);
        due("and back", x.house(5, 1), 5);
        due("the other one back", x.house(0, 1), 0);
    }

    private static void placeAhead() {
        HousesThatChange x = ring("hhhf");
        for (int house = 0; house < 4; house++) {
            due("without a NIGHT", x.house(house, 2), house);
        }
        x.night(0, 0);
        due("behind one", x.house(0, 2), 0);
        x.night(1, 0);
        due("behind two", x.house(0, 2), 1);
        due("of the one that moved first", x.house(1, 2), 0);
        x.night(3, 0);
        due("of a NIGHT by which nothing changed", x.house(0, 2), 2);
        due("of the FIXED one", x.house(3, 2), 3);
        x.night(9, 0);
        x.night(0, 9);
        due("refusals are no NIGHTS", x.house(0, 2), 2);
    }

    private static void placeInAim() {
        HousesThatChange x = ring("hhhf");
        for (int house = 0; house < 4; house++) {
            due("no AIM", x.house(house, 3), NONE);
        }
        write(x, "3120");
        due("an AIM that was not read", x.house(0, 3), NONE);
        x.aim();
        due("the first PLACE", x.house(3, 3), 0);
        due("the last PLACE", x.house(0, 3), 3);
        x.night(0, 0);
        due("a NIGHT does not change it", x.house(0, 3), 3);
    }

    // ---- promise 9

    private static void asKind() {
        takes("as(0, ..)", () -> ring("hhh"), 0, 3, OUTSIDE, (x, kind) -> x.as(0, kind));
        takes("as(2, ..)", () -> ring("hhw"), 0, 3, OUTSIDE, (x, kind) -> x.as(2, kind));
    }

    private static void ownNumber() {
        HousesThatChange x = ring("wwwwww");
        for (int house = 0; house < 6; house++) {
            due("as a HOUSE", x.as(house, 0), house);
            due("as FIXED", x.as(house, 1), house);
            due("as a WELL", x.as(house, 3), house);
        }
        HousesThatChange moved = went("hhe", "1");
        due("EMPTY, wherever it stands", moved.as(2, 2), 2);
        due("the one in its old PLACE", moved.as(1, 2), NONE);
    }

    private static void kindsOfKinds() {
        HousesThatChange x = ring("hfew");
        int[][] due = {{0, NONE, NONE, NONE}, {1, 1, NONE, NONE}, {2, NONE, 2, NONE}, {3, 3, NONE, 3}};
        for (int house = 0; house < 4; house++) {
            for (int kind = 0; kind < 4; kind++) {
                due("as(" + house + ", " + kind + ")", x.as(house, kind), due[house][kind]);
            }
        }
    }

    private static void asRefusals() {
        for (int houses = 3; houses <= 6; houses++) {
            int all = houses;
            takes("as of " + houses, () -> houses(all), 0, houses - 1, UNKNOWN, (x, house) -> x.as(house, 0));
            takes("as of " + houses + ", none such", () -> houses(all), 0, houses - 1, UNKNOWN, (x, house) -> x.as(house, 3));
        }
        refused("UNKNOWN ahead of OUTSIDE, below", Check::lived, UNKNOWN, x -> x.as(-1, -1));
        refused("UNKNOWN ahead of OUTSIDE, above", Check::lived, UNKNOWN, x -> x.as(5, 4));
        refused("without a RING", HousesThatChange::new, UNKNOWN, x -> x.as(0, 0));
        refused("without a RING, OUTSIDE", HousesThatChange::new, UNKNOWN, x -> x.as(0, 4));
    }

    // ---- promises 10 and 11

    private static void houseInPlace() {
        for (int houses = 3; houses <= 6; houses++) {
            HousesThatChange x = houses(houses);
            x.night(houses - 1, 0);
            due("the first PLACE", x.at(0), houses - 1);
            due("the last PLACE", x.at(houses - 1), 0);
            due("between", x.at(1), 1);
        }
    }

    private static void unknownPlace() {
        for (int houses = 3; houses <= 6; houses++) {
            int all = houses;
            takes("at of " + houses, () -> houses(all), 0, houses - 1, UNKNOWN, HousesThatChange::at);
        }
        refused("without a RING", HousesThatChange::new, UNKNOWN, x -> x.at(0));
        refused("with a RING on THE PAGE", () -> page("hhh"), UNKNOWN, x -> x.at(0));
    }

    private static void feuds() {
        for (int a = 0; a < 6; a++) {
            for (int b = 0; b < 6; b++) {
                if (a != b) {
                    HousesThatChange x = ring("hfewhe;" + a + b);
                    oneFeud(x, a, b);
                }
            }
        }
        HousesThatChange six = ring("hhhhhh;01,12,23,34,45,50");
        due("the first of six", six.feud(0, 1), 1);
        due("the last of six", six.feud(0, 5), 1);
        due("none", six.feud(0, 3), 0);
    }

    private static void oneFeud(HousesThatChange x, int a, int b) {
        for (int c = 0; c < 6; c++) {
            for (int d = 0; d < 6; d++) {
                boolean same = c == a && d == b || c == b && d == a;
                due("feud(" + c + ", " + d + ") of " + a + b, x.feud(c, d), same ? 1 : 0);
            }
        }
    }

    private static void noFeudWithItself() {
        HousesThatChange x = ring("hhh;01,12,20");
        for (int house = 0; house < 3; house++) {
            due("feud(" + house + ", " + house + ")", x.feud(house, house), 0);
        }
    }

    private static void feudUnknown() {
        for (int houses = 3; houses <= 6; houses++) {
            int all = houses;
            takes("a of " + houses, () -> houses(all), 0, houses - 1, UNKNOWN, (x, a) -> x.feud(a, 1));
            takes("b of " + houses, () -> houses(all), 0, houses - 1, UNKNOWN, (x, b) -> x.feud(1, b));
        }
        refused("both", Check::lived, UNKNOWN, x -> x.feud(5, 5));
        refused("both below", Check::lived, UNKNOWN, x -> x.feud(-1, -1));
        refused("without a RING", HousesThatChange::new, UNKNOWN, x -> x.feud(0, 1));
        refused("one and itself without a RING", HousesThatChange::new, UNKNOWN, x -> x.feud(0, 0));
    }

    // ---- promise 12

    private static void touchNoneAndAll() {
        due("no FEUDS", houses(6).touch(), 0);
        due("apart", ring("hhhhhh;02,03,04,13,14,15").touch(), 0);
        due("three, all", ring("hhh;01,12,20").touch(), 3);
        due("six, all beside one another", ring("hhhhhh;01,12,23,34,45,50").touch(), 6);
        due("five of six", ring("hhhhhh;01,12,23,34,45,30").touch(), 5);
    }

    private static void toldTwice() {
        due("twice", ring("hhh;01,01").touch(), 1);
        due("back", ring("hhh;01,10").touch(), 1);
        due("six times", ring("hhh;12,21,12,21,12,21").touch(), 1);
        due("with others between", ring("hhhh;01,12,10,21").touch(), 2);
    }

    private static void emptyOnes() {
        due("the first", ring("ehh;01").touch(), 0);
        due("the second", ring("heh;01").touch(), 0);
        due("both", ring("eeh;01").touch(), 0);
        due("one that has no part in it", ring("hhe;01").touch(), 1);
        due("it has a FEUD", ring("ehh;01").feud(0, 1), 1);
        due("FIXED ones do", ring("fhh;01").touch(), 1);
        due("WELLS do", ring("whh;01").touch(), 1);
        due("FIXED and WELL", ring("fwh;01").touch(), 1);
        due("EMPTY and FIXED", ring("feh;01,20").touch(), 1);
    }

    private static void touchRound() {
        for (int houses = 3; houses <= 6; houses++) {
            String text = "hhhhhh".substring(0, houses) + ";";
            due("0 and the last of " + houses, ring(text + "0" + (houses - 1)).touch(), 1);
            due("the last and 0 of " + houses, ring(text + (houses - 1) + "0").touch(), 1);
            for (int a = 0; a < houses; a++) {
                int on = (a + 1) % houses;
                due(a + " and the next of " + houses, ring(text + a + on).touch(), 1);
                int second = (a + 2) % houses;
                due(a + " and the second of " + houses, ring(text + a + second).touch(), houses == 3 ? 1 : 0);
            }
        }
        due("two PLACES round of four", ring("hhhh;02,13").touch(), 0);
        due("three PLACES of six", ring("hhhhhh;03,14,25").touch(), 0);
    }

    private static void touchNow() {
        HousesThatChange x = ring("hhhhhh;04");
        due("apart", x.touch(), 0);
        x.night(5, 0);
        due("0 behind the last PLACE", x.touch(), 1);
        x.night(4, 0);
        due("they changed", x.touch(), 1);
        x.night(3, 0);
        due("apart again", x.touch(), 0);
    }

    // ---- promise 13

    private static void joinsWithoutNight() {
        for (int houses = 3; houses <= 6; houses++) {
            due(houses + " HOUSES", houses(houses).joins(), 0);
        }
        HousesThatChange x = houses(5);
        x.night(9, 0);
        x.night(0, 2);
        x.nights(0, 0);
        due("refused NIGHTS", x.joins(), 0);
        x.night(0, 0);
        write(x, "hhhhh");
        x.ring();
        due("another RING", x.joins(), 0);
    }

    private static void joinsOfTheLastNight() {
        HousesThatChange x = ring("hhhhf");
        x.night(0, 0);
        due("a change", x.joins(), 2);
        x.night(0, 0);
        due("and back", x.joins(), 2);
        x.night(3, 0);
        due("a NIGHT by which nothing changed", x.joins(), 0);
        x.night(1, 0);
        x.night(0, 1);
        due("the last of several", x.joins(), 2);
        x.nights(1, 0);
        due("by THE SEED, in 3 beside the FIXED one", x.joins(), 0);
        HousesThatChange six = houses(6);
        six.nights(1, 0);
        due("by THE SEED, in 2", six.joins(), 2);
    }

    private static void joinsOfThree() {
        for (int die = 0; die < 3; die++) {
            HousesThatChange x = houses(3);
            due("something changed", x.night(die, 0), 1);
            due("in " + die, x.joins(), 0);
        }
    }

    private static void joinsRound() {
        for (int houses = 4; houses <= 6; houses++) {
            for (int die = 0; die < houses; die++) {
                HousesThatChange x = houses(houses);
                x.night(die, 0);
                due("in " + die + " of " + houses, x.joins(), 2);
            }
        }
    }

    private static void joinsOfKinds() {
        HousesThatChange x = went("eeeeww", "1");
        due("EMPTY ones and WELLS", x.joins(), 2);
        due("FEUDS", went("hhhhh;01,12,23,34,40", "1").joins(), 2);
    }

    // ---- promise 14

    private static void walkUnknown() {
        for (int houses = 3; houses <= 6; houses++) {
            int all = houses;
            takes("walk of " + houses, () -> houses(all), 0, houses - 1, UNKNOWN, HousesThatChange::walk);
        }
        refused("without a RING", HousesThatChange::new, UNKNOWN, x -> x.walk(0));
    }

    private static void shorterWay() {
        int[][] due = {{0, 1, 1}, {0, 1, 2, 1}, {0, 1, 2, 2, 1}, {0, 1, 2, 3, 2, 1}};
        for (int houses = 3; houses <= 6; houses++) {
            for (int house = 0; house < houses; house++) {
                due(house + " of " + houses, houses(houses).walk(house), due[houses - 3][house]);
            }
        }
    }

    private static void twoWays() {
        for (int houses = 3; houses <= 6; houses++) {
            int last = houses - 1;
            HousesThatChange x = houses(houses);
            x.night(last, 0);
            due("from 0 to the last PLACE of " + houses, x.walk(0), 1);
            due("from the last PLACE to 0 of " + houses, x.walk(last), 2);
            x.night(last, 0);
            due("0 again", x.walk(0), 2);
            due("the last one again", x.walk(last), 1);
        }
        HousesThatChange x = went("hhhhhh", "2");
        due("2 by two, and by one", x.walk(2), 3);
        due("3 by three, and by one", x.walk(3), 4);
        due("4 stayed", x.walk(4), 2);
    }

    private static void walkOfStill() {
        HousesThatChange x = went("hhhhf", "04");
        due("the one that went ahead of it", x.walk(0), 1);
        due("the one that stands in PLACE 0", x.walk(1), 0);
        due("the FIXED one", x.walk(4), 1);
    }
}

/** Promises 1 to 7, and what the terms say of texts: a test for each sentence that names a boundary. */
public final class TextEdgesTest extends Check {
    private static final String LONGEST = "hfewhf;50,15,25,35,45,05";

    public static void main(String[] args) {
        promises1To3();
        promise4();
        promise5();
        promises6And7();
        finish("the edges of texts hold");
    }

    private static void promises1To3() {
        edge("1: No RING", TextEdgesTest::newWithoutRing);
        edge("1: no AIM", TextEdgesTest::newWithoutAim);
        edge("1: THE SEED is 1", TextEdgesTest::newSeed);
        edge("1: a new object: nothing of another one is in it", TextEdgesTest::twoObjects);
        edge("2: Letters come behind THE PAGE", TextEdgesTest::behindThePage);
        edge("2: up to eight", TextEdgesTest::upToEight);
        edge("2: the lowest byte first", TextEdgesTest::lowestFirst);
        edge("2: until a byte that is 0", TextEdgesTest::untilZero);
        edge("2: OUTSIDE: a byte above 126", TextEdgesTest::byteAbove);
        edge("2: OUTSIDE: one behind a 0 that is not 0", TextEdgesTest::behindZero);
        edge("2: FULL: above 26", TextEdgesTest::fullPage);
        edge("2: OUTSIDE ahead of FULL", TextEdgesTest::outsideAheadOfFull);
        edge("3: THE PAGE is empty", TextEdgesTest::blankEmpties);
        edge("3: how many letters it had", TextEdgesTest::blankCounts);
    }

    private static void promise4() {
        edge("4: sort 0, 1; OUTSIDE", TextEdgesTest::sorts);
        edge("4: an empty PAGE, a full one", TextEdgesTest::faultEmptyAndFull);
        edge("4: the first letter, behind those ahead of it", TextEdgesTest::firstFault);
        edge("4: how many letters it has, if there is none", TextEdgesTest::noFault);
        edge("4: whatever RING there is", TextEdgesTest::faultIsOfThePageAlone);
        edge("THE RING: three to six letters: h, f, e, w", TextEdgesTest::ringLetters);
        edge("THE RING: perhaps ;", TextEdgesTest::ringMark);
        edge("THE RING: two digits, HOUSES that are there", TextEdgesTest::feudDigits);
        edge("THE RING: unlike", TextEdgesTest::feudUnlike);
        edge("THE RING: one to six FEUDS with , between", TextEdgesTest::feudMarks);
        edge("A LETTER: n, r, l, b", TextEdgesTest::letterSorts);
        edge("A LETTER: a HOUSE (digits 0 to 5)", TextEdgesTest::letterHouses);
        edge("A LETTER: STEPS (1 to 9)", TextEdgesTest::letterSteps);
        edge("A LETTER: two HOUSES, unlike", TextEdgesTest::letterUnlike);
    }

    private static void promise5() {
        edge("5: THE PAGE is read as THE RING: how many HOUSES", TextEdgesTest::ringHouses);
        edge("5: STATE: it is none", TextEdgesTest::noRingText);
        edge("5: another one is gone", TextEdgesTest::otherRingIsGone);
        edge("5: with THE AIM", TextEdgesTest::aimIsGone);
        edge("5: and all NIGHTS", TextEdgesTest::nightsAreGone);
        edge("5: THE PAGE is empty then", TextEdgesTest::ringEmptiesThePage);
        edge("THE RING: numbered from 0, in PLACES 0, 1, .. at first", TextEdgesTest::numberedFromZero);
        edge("THE RING: KINDS", TextEdgesTest::kindsByLetters);
    }

    private static void promises6And7() {
        edge("6: THE PAGE is read as THE AIM: how many HOUSES", TextEdgesTest::aimHouses);
        edge("6: another one is gone", TextEdgesTest::otherAimIsGone);
        edge("6: STATE: there is no RING", TextEdgesTest::aimWithoutRing);
        edge("6: STATE: it is none: a digit for each PLACE", TextEdgesTest::aimLength);
        edge("6: STATE: it is none: all HOUSES once", TextEdgesTest::aimOfAllOnce);
        edge("6: all HOUSES: FIXED ones, wherever they stand in it", TextEdgesTest::aimOfFixed);
        edge("7: STATE: there is no RING", TextEdgesTest::letterWithoutRing);
        edge("7: STATE: it is none", TextEdgesTest::noLetterText);
        edge("7: UNKNOWN: a HOUSE that is not there", TextEdgesTest::letterToUnknown);
        edge("7: STATE ahead of UNKNOWN", TextEdgesTest::stateAheadOfUnknown);
        edge("7: THE PAGE is empty then", TextEdgesTest::letterEmptiesThePage);
        edge("A LETTER goes TO that HOUSE", TextEdgesTest::toThatHouse);
        edge("A LETTER goes TO the one so many PLACES on (back)", TextEdgesTest::onAndBack);
        edge("A LETTER goes TO the one beside both, if there is just one", TextEdgesTest::besideBoth);
        edge("7: goes now", TextEdgesTest::letterNow);
    }

    // ---- promise 1

    private static void newWithoutRing() {
        HousesThatChange x = new HousesThatChange();
        due("count(0)", x.count(0), 0);
        due("count(1)", x.count(1), 0);
        due("count(2)", x.count(2), 0);
        due("count(5)", x.count(5), 0);
        due("touch()", x.touch(), STATE);
        due("house(0, 0)", x.house(0, 0), UNKNOWN);
        due("image()", x.image(), STATE);
        due("restore()", x.restore(), STATE);
    }

    private static void newWithoutAim() {
        HousesThatChange x = new HousesThatChange();
        due("fewest()", x.fewest(), STATE);
        due("surely()", x.surely(), STATE);
        write(x, "hhh");
        x.ring();
        due("fewest() of a RING", x.fewest(), STATE);
        due("surely() of a RING", x.surely(), STATE);
        due("house(0, 3)", x.house(0, 3), NONE);
    }

    private static void newSeed() {
        due("count(3)", new HousesThatChange().count(3), 1);
        due("seed(9)", new HousesThatChange().seed(9), 1);
        HousesThatChange x = houses(3);
        due("count(3) of a RING", x.count(3), 1);
    }

    private static void twoObjects() {
        HousesThatChange x = lived();
        HousesThatChange other = new HousesThatChange();
        due("digest() of the new one", other.digest(), new HousesThatChange().digest());
        write(other, "wfe;01");
        other.ring();
        other.seed(3);
        other.night(0, 0);
        write(other, "012");
        other.aim();
        other.image();
        same("the old one", x, lived());
    }

    // ---- promise 2

    /** What digest() tells of an object that has nothing but letters. */
    private static long digestOf(String page) {
        long h = 571;
        for (int i = 0; i < page.length(); i++) {
            h = 31 * h + page.charAt(i);
        }
        long[] counts = {0, 0, 0, 1, page.length(), 0};
        for (long count : counts) {
            h = 31 * h + count;
        }
        return h;
    }

    private static void behindThePage() {
        HousesThatChange x = new HousesThatChange();
        for (int i = 0; i < FULL_PAGE.length(); i++) {
            due("letter " + i, x.letters(FULL_PAGE.charAt(i)), i + 1);
            due("the PAGE of " + (i + 1), x.digest(), digestOf(FULL_PAGE.substring(0, i + 1)));
        }
        x.blank();
        due("behind an emptied PAGE", x.letters('z'), 1);
        due("none of the old ones", x.digest(), digestOf("z"));
    }

    private static void upToEight() {
        for (int count = 0; count <= 8; count++) {
            String text = FULL_PAGE.substring(0, count);
            HousesThatChange x = new HousesThatChange();
            due(count + " at once", x.letters(packed(text)), count);
            due("the PAGE of " + count, x.digest(), digestOf(text));
            due(count + " more", x.letters(packed(text)), 2 * count);
            due("the PAGE of twice " + count, x.digest(), digestOf(text + text));
        }
    }

    private static void lowestFirst() {
        HousesThatChange x = new HousesThatChange();
        x.letters(0x0807060504030201L);
        due("the PAGE", x.digest(), digestOf("\u0001\u0002\u0003\u0004\u0005\u0006\u0007\u0008"));
    }

    private static void untilZero() {
        HousesThatChange x = new HousesThatChange();
        due("none", x.letters(0), 0);
        due("the first byte alone", x.letters('q'), 1);
        due("none more", x.letters(0), 1);
        due("the PAGE", x.digest(), digestOf("q"));
    }

    private static void byteAbove() {
        for (int place = 0; place < 8; place++) {
            String ahead = FULL_PAGE.substring(0, place);
            for (int code = 1; code <= 126; code += code == 1 ? 124 : 1) {
                HousesThatChange x = new HousesThatChange();
                due("byte " + place + " of " + code, x.letters(packed(ahead) | (long) code << 8 * place), place + 1);
                due("the PAGE", x.digest(), digestOf(ahead + (char) code));
            }
            for (int code : new int[] {127, 128, 129, 192, 254, 255}) {
                long w = packed(ahead) | (long) code << 8 * place;
                refused("byte " + place + " of " + code, () -> page("q"), OUTSIDE, x -> x.letters(w));
            }
        }
        refused("a byte above 126 ahead of others", HousesThatChange::new, OUTSIDE, x -> x.letters(0x687f68L));
        refused("all bytes", HousesThatChange::new, OUTSIDE, x -> x.letters(-1));
        refused("the highest bit alone", HousesThatChange::new, OUTSIDE, x -> x.letters(Long.MIN_VALUE));
        refused("the greatest number", HousesThatChange::new, OUTSIDE, x -> x.letters(Long.MAX_VALUE));
    }

    private static void behindZero() {
        for (int zero = 0; zero < 7; zero++) {
            long ahead = packed(FULL_PAGE.substring(0, zero));
            due("all behind byte " + zero + " are 0", new HousesThatChange().letters(ahead), zero);
            for (int place = zero + 1; place < 8; place++) {
                for (int code : new int[] {1, 'h', 126, 127, 255}) {
                    long w = ahead | (long) code << 8 * place;
                    String what = "byte " + place + " of " + code + " behind a 0 in " + zero;
                    refused(what, () -> page("q"), OUTSIDE, x -> x.letters(w));
                }
            }
        }
    }

    private static void fullPage() {
        String most = FULL_PAGE;
        for (int has = 18; has <= 26; has++) {
            for (int more = 0; more <= 8; more++) {
                String page = most.substring(0, has);
                String text = most.substring(0, more);
                if (has + more <= 26) {
                    HousesThatChange x = page(page);
                    due(more + " behind " + has, x.letters(packed(text)), has + more);
                    due("the PAGE", x.digest(), digestOf(page + text));
                } else {
                    refused(more + " behind " + has, () -> page(page), FULL, x -> x.letters(packed(text)));
                }
            }
        }
        HousesThatChange x = page(most.substring(0, 25));
        due("27", x.letters(packed("12")), FULL);
        due("behind a refusal", x.letters(packed("1")), 26);
        due("the PAGE", x.digest(), digestOf(most.substring(0, 25) + "1"));
    }

    private static void outsideAheadOfFull() {
        Start full = () -> page(FULL_PAGE);
        refused("a byte above 126 on a full PAGE", full, OUTSIDE, x -> x.letters(127));
        refused("a byte behind a 0 on a full PAGE", full, OUTSIDE, x -> x.letters(256));
        refused("a letter on a full PAGE", full, FULL, x -> x.letters(126));
    }

    // ---- promise 3

    private static void blankEmpties() {
        HousesThatChange x = page(FULL_PAGE);
        x.blank();
        due("count(4)", x.count(4), 0);
        due("all", x.digest(), digestOf(""));
        HousesThatChange y = lived();
        y.blank();
        write(y, "n0x");
        same("nothing else changes", y, lived());
    }

    private static void blankCounts() {
        due("an empty PAGE", new HousesThatChange().blank(), 0);
        due("one letter", page("z").blank(), 1);
        HousesThatChange x = page(FULL_PAGE);
        due("a full PAGE", x.blank(), 26);
        due("a PAGE that was emptied", x.blank(), 0);
    }

    // ---- promise 4

    private static void sorts() {
        takes("fault()", () -> page("hfx"), 0, 1, OUTSIDE, HousesThatChange::fault);
        takes("fault() of an empty PAGE", HousesThatChange::new, 0, 1, OUTSIDE, HousesThatChange::fault);
        takes("fault() of a RING's PAGE", Check::lived, 0, 1, OUTSIDE, HousesThatChange::fault);
        due("a RING is no LETTER", page("hfe").fault(1), 0);
        due("a LETTER is no RING", page("n01").fault(0), 0);
    }

    private static void faultEmptyAndFull() {
        due("an empty PAGE, a RING", new HousesThatChange().fault(0), 0);
        due("an empty PAGE, a LETTER", new HousesThatChange().fault(1), 0);
        due("a full PAGE, a RING", page(LONGEST + ",0").fault(0), 24);
        due("a full PAGE, the last letter of it", page("hhh;01,01,01,01,01,01,01,1").fault(0), 21);
        due("a full PAGE, a LETTER", page("b01" + LONGEST.substring(1)).fault(1), 3);
    }

    private static void firstFault() {
        due("the first letter", page("xhfe").fault(0), 0);
        due("the first of two", page("hfxexx").fault(0), 2);
        due("a , that would be right without the letter ahead of it", page("hfe;0,12").fault(0), 5);
        due("what follows does not mend it", page("hf;01").fault(0), 2);
        due("the last letter", page("hfe;01,0x").fault(0), 8);
        due("the first of a LETTER", page("0n").fault(1), 0);
        due("the first of two of a LETTER", page("r0x").fault(1), 1);
        due("the last of a LETTER", page("l1x").fault(1), 2);
    }

    private static void noFault() {
        for (int letters = 0; letters <= LONGEST.length(); letters++) {
            due("a RING's first " + letters, page(LONGEST.substring(0, letters)).fault(0), letters);
        }
        for (String text : new String[] {"n5", "r95", "l10", "b50", "b05"}) {
            for (int letters = 0; letters <= text.length(); letters++) {
                due(text + ", its first " + letters, page(text.substring(0, letters)).fault(1), letters);
            }
        }
    }

    private static void faultIsOfThePageAlone() {
        HousesThatChange x = houses(3);
        write(x, "hhhhhh;54");
        due("a greater RING", x.fault(0), 9);
        x.blank();
        write(x, "n5");
        due("a HOUSE that is not there", x.fault(1), 2);
        due("nothing changed", x.count(4), 2);
        due("no HOUSES more", x.count(0), 3);
    }

    /** Behind these letters just those may come. */
    private static void behind(int sort, String ahead, String allowed) {
        for (char code = 1; code <= 126; code++) {
            int due = allowed.indexOf(code) >= 0 ? ahead.length() + 1 : ahead.length();
            due("fault(" + sort + ") of " + ahead + " and the code " + (int) code, page(ahead + code).fault(sort), due);
        }
    }

    private static void ringLetters() {
        behind(0, "", "hfew");
        behind(0, "h", "hfew");
        behind(0, "wf", "hfew");
        behind(0, "hfe", "hfew;");
        behind(0, "hfew", "hfew;");
        behind(0, "ehfew", "hfew;");
        behind(0, "wehfew", ";");
    }

    private static void ringMark() {
        due("; behind none", page(";").fault(0), 0);
        due("; behind two", page("hh;").fault(0), 2);
        due("; behind three", page("hhh;").fault(0), 4);
        due("; behind six", page("hhhhhh;").fault(0), 7);
        due("; behind ;", page("hhh;;").fault(0), 4);
        due("; behind a FEUD", page("hhh;01;").fault(0), 6);
        due("ring() with ; and no FEUD", page("hhh;").ring(), STATE);
        due("ring() without ;", page("hhh").ring(), 3);
    }

    private static void feudDigits() {
        for (int houses = 3; houses <= 6; houses++) {
            String there = first(houses);
            String letters = "wefhwe".substring(0, houses) + ";";
            behind(0, letters, there);
            for (int a = 0; a < houses; a++) {
                behind(0, letters + a, there.replace("" + a, ""));
            }
            behind(0, letters + "01,", there);
            behind(0, letters + "01,1", there.replace("1", ""));
        }
    }

    private static void feudUnlike() {
        for (int house = 0; house < 6; house++) {
            String text = "hhhhhh;" + house + house;
            due("fault(0) of " + text, page(text).fault(0), 8);
            due("ring() of " + text, page(text).ring(), STATE);
            String later = "hhhhhh;01,02,03,04,05," + house + house;
            due("fault(0) of " + later, page(later).fault(0), 23);
            due("ring() of " + later, page(later).ring(), STATE);
        }
        due("the digit ahead of the , is none of the FEUD", page("hhh;01,12").ring(), 3);
    }

    private static void feudMarks() {
        behind(0, "hhh;01", ",");
        behind(0, "hhh;01,12,20,01,12", ",");
        behind(0, "hhh;01,12,20,01,12,20", "");
        behind(0, "hhhhhh;01,12,20,01,12,20", "");
        due("one", ring("hhh;01").count(1), 1);
        due("six", ring("hhhhhh;01,12,23,34,45,50").count(1), 6);
        due("seven", page("hhh;01,02,01,02,01,02,").ring(), STATE);
        due("none behind ,", page("hhh;01,").ring(), STATE);
    }

    private static void letterSorts() {
        behind(1, "", "nrlb");
    }

    private static void letterHouses() {
        behind(1, "n", "012345");
        behind(1, "r1", "012345");
        behind(1, "l9", "012345");
        behind(1, "r5", "012345");
        behind(1, "b", "012345");
        behind(1, "n0", "");
        behind(1, "n5", "");
        behind(1, "r10", "");
        behind(1, "l95", "");
        behind(1, "b01", "");
        behind(1, "b54", "");
    }

    private static void letterSteps() {
        behind(1, "r", "123456789");
        behind(1, "l", "123456789");
    }

    private static void letterUnlike() {
        for (int house = 0; house < 6; house++) {
            behind(1, "b" + house, "012345".replace("" + house, ""));
        }
    }

    // ---- promise 5

    private static void ringHouses() {
        due("three", page("hfe").ring(), 3);
        due("four", page("hfew").ring(), 4);
        due("five", page("wefhh").ring(), 5);
        due("six", page("eeeeee").ring(), 6);
        for (int letters = 0; letters <= LONGEST.length(); letters++) {
            boolean isRing = letters >= 3 && letters <= 6 || letters > 7 && (letters - 7) % 3 == 2;
            int due = isRing ? Math.min(letters, 6) : STATE;
            due("the first " + letters + " letters", page(LONGEST.substring(0, letters)).ring(), due);
        }
    }

    private static void noRingText() {
        String[] none = {"", "h", "hh", "hhhhhhh", "hhhhhhh;01", "hhx", "hhH", "xhh", "hh;01", "hhh;", "hhh;0", "hhh;01,",
            "hhh;01,1", "hhh;01,12,", "hhh;00", "hhh;03", "hhh;30", "hhhh;40", "hhhhh;05", "hhhhhh;06", "hhhhhh;60",
            "hhh;0112", "hhh:01", "hhh,01", "hhh;01;12", "hhh;01.12", "hhh 01", "hhh;01,02,12,01,02,12,01", FULL_PAGE};
        for (String text : none) {
            refused("no RING yet, " + text, () -> page(text), STATE, HousesThatChange::ring);
            refused("another RING, " + text, () -> {
                HousesThatChange x = lived();
                x.blank();
                write(x, text);
                return x;
            }, STATE, HousesThatChange::ring);
        }
    }

    /** An object that has lived reads this RING, and is then as a new one with its SEED and readings. */
    private static void otherRingIsGone() {
        for (String text : new String[] {"hhh", "fww;01", "hhhhh;02,13", "hhheh;02,13", "eeeeee;01,12,23,34,45,50"}) {
            HousesThatChange x = lived();
            x.blank();
            write(x, text);
            due("ring() of " + text, x.ring(), housesOf(text));
            HousesThatChange other = page("hhh");
            other.ring();
            write(other, text);
            other.ring();
            other.seed(x.count(3));
            same(text, x, other);
        }
        HousesThatChange x = lived();
        x.blank();
        write(x, "hhh");
        x.ring();
        due("HOUSES of the old one", x.house(3, 0), UNKNOWN);
        due("PLACES of the old one", x.at(4), UNKNOWN);
        write(x, "ehh");
        x.ring();
        due("its KINDS", x.as(2, 2), NONE);
        due("the new one's", x.as(0, 2), 0);
        due("its FEUDS", x.feud(0, 2), 0);
        fixedOnesAreGone();
    }

    private static void fixedOnesAreGone() {
        for (String old : new String[] {"ffffff;01", "fhh", "hwh", "hhhhhw"}) {
            HousesThatChange x = ring(old);
            write(x, "hhehh");
            x.ring();
            for (int die = 0; die < 5; die++) {
                due("night(" + die + ", 0) behind " + old, x.night(die, 0), 1);
            }
        }
        HousesThatChange x = houses(6);
        write(x, "hff");
        x.ring();
        due("none that could move before", x.night(0, 0), 0);
    }

    private static void aimIsGone() {
        HousesThatChange x = aimed("hhh", "210");
        write(x, "hhh");
        x.ring();
        due("fewest()", x.fewest(), STATE);
        due("surely()", x.surely(), STATE);
        for (int house = 0; house < 3; house++) {
            due("house(" + house + ", 3)", x.house(house, 3), NONE);
        }
        write(x, "012");
        x.aim();
        due("a new AIM", x.fewest(), 0);
    }

    private static void nightsAreGone() {
        HousesThatChange x = went("hhhhh", "012");
        due("count(2) ahead of it", x.count(2), 3);
        x.seed(8);
        write(x, "hhhhh");
        x.ring();
        due("count(2)", x.count(2), 0);
        order(x, "01234");
        for (int house = 0; house < 5; house++) {
            due("the PLACE ahead of the last NIGHT", x.house(house, 2), house);
        }
        due("joins()", x.joins(), 0);
        due("THE SEED is none of it", x.count(3), 8);
    }

    private static void ringEmptiesThePage() {
        HousesThatChange x = page(LONGEST);
        x.ring();
        due("count(4)", x.count(4), 0);
        due("no text is there", x.ring(), STATE);
        due("how often a RING was read", x.count(5), 1);
    }

    private static void numberedFromZero() {
        for (int houses = 3; houses <= 6; houses++) {
            HousesThatChange x = houses(houses);
            order(x, first(houses));
            due("the last one", x.house(houses - 1, 1), houses - 1);
            due("one more", x.house(houses, 1), UNKNOWN);
        }
    }

    private static void kindsByLetters() {
        HousesThatChange x = ring("wefhwe");
        int[] kinds = {3, 2, 1, 0, 3, 2};
        for (int house = 0; house < 6; house++) {
            due("house(" + house + ", 0)", x.house(house, 0), kinds[house]);
        }
    }

    // ---- promise 6

    private static void aimHouses() {
        String[] aims = {"201", "3012", "43210", "503142"};
        for (String aim : aims) {
            HousesThatChange x = houses(aim.length());
            write(x, aim);
            due("aim() of " + aim, x.aim(), aim.length());
            due("THE PAGE is empty then", x.count(4), 0);
            for (int place = 0; place < aim.length(); place++) {
                due("the PLACE in " + aim, x.house(aim.charAt(place) - '0', 3), place);
            }
            order(x, first(aim.length()));
        }
    }

    private static void otherAimIsGone() {
        HousesThatChange x = aimed("hhhh", "0123");
        due("fewest()", x.fewest(), 0);
        due("surely()", x.surely(), 0);
        write(x, "1230");
        x.aim();
        due("fewest() of another", x.fewest(), 3);
        due("surely() of another", x.surely(), NONE);
        due("house(0, 3) of another", x.house(0, 3), 3);
    }

    private static void aimWithoutRing() {
        for (String text : new String[] {"", "0", "012", "0123", "543210", FULL_PAGE}) {
            refused("aim() of " + text, () -> page(text), STATE, HousesThatChange::aim);
        }
    }

    private static Start onPage(String ring, String text) {
        return () -> {
            HousesThatChange x = ring(ring);
            write(x, text);
            return x;
        };
    }

    private static void aimLength() {
        for (int houses = 3; houses <= 6; houses++) {
            String text = "hhhhhh".substring(0, houses);
            for (int digits = 0; digits <= 8; digits++) {
                if (digits != houses) {
                    refused("aim() of " + digits + " digits", onPage(text, "01234567".substring(0, digits)), STATE,
                        HousesThatChange::aim);
                }
            }
            refused("one twice behind all", onPage(text, first(houses) + "0"), STATE, HousesThatChange::aim);
            refused("a full PAGE", onPage(text, FULL_PAGE), STATE, HousesThatChange::aim);
        }
        Start aimed = () -> {
            HousesThatChange x = aimed("hhh", "120");
            write(x, "01");
            return x;
        };
        refused("THE AIM stays", aimed, STATE, HousesThatChange::aim);
    }

    private static void aimOfAllOnce() {
        String codes = "!/0123:p";
        for (int i = 0; i < 512; i++) {
            String text = "" + codes.charAt(i / 64) + codes.charAt(i / 8 % 8) + codes.charAt(i % 8);
            boolean all = text.contains("0") && text.contains("1") && text.contains("2");
            due("aim() of " + text, onPage("hhh", text).made().aim(), all ? 3 : STATE);
        }
        for (int houses = 3; houses <= 6; houses++) {
            for (int place = 0; place < houses; place++) {
                for (char code : "/0123456:x ".toCharArray()) {
                    StringBuilder text = new StringBuilder(first(houses));
                    text.setCharAt(place, code);
                    int due = code - '0' == place ? houses : STATE;
                    HousesThatChange x = onPage("hhhhhh".substring(0, houses), text.toString()).made();
                    due("aim() of " + text, x.aim(), due);
                    due("THE PAGE of " + text, x.count(4), due == STATE ? houses : 0);
                }
            }
        }
    }

    private static void aimOfFixed() {
        for (String ring : new String[] {"fhhh", "whhh", "hfwe", "ffff", "wwww"}) {
            for (String aim : new String[] {"0123", "1230", "3012", "3210", "0213"}) {
                HousesThatChange x = onPage(ring, aim).made();
                due("aim() of " + aim + " for " + ring, x.aim(), 4);
                due("the PLACE of 0 in it", x.house(0, 3), aim.indexOf('0'));
            }
        }
    }

    // ---- promise 7

    private static void letterWithoutRing() {
        for (String text : new String[] {"", "n", "n0", "n5", "r10", "l95", "b01", "n6", FULL_PAGE}) {
            refused("letter() of " + text, () -> page(text), STATE, HousesThatChange::letter);
        }
    }

    private static void noLetterText() {
        String[] none = {"", "n", "r", "l", "b", "r1", "l9", "b0", "n00", "n0x", "r100", "l101", "b012", "n6", "n9", "n/", "n:",
            "r00", "l05", "r16", "l96", "r1/", "b00", "b55", "b06", "b60", "x0", "N0", "0n", "12", "h10", "nn", FULL_PAGE};
        for (String text : none) {
            refused("letter() of " + text, onPage("hhhhhh;01", text), STATE, HousesThatChange::letter);
        }
    }

    private static void letterToUnknown() {
        for (int houses = 3; houses <= 5; houses++) {
            String ring = "hhhhhh".substring(0, houses);
            for (int house = houses; house <= 5; house++) {
                String[] texts = {"n" + house, "r1" + house, "l9" + house, "b0" + house, "b" + house + "0"};
                for (String text : texts) {
                    refused(text + " of " + houses, onPage(ring, text), UNKNOWN, HousesThatChange::letter);
                }
            }
            String last = "" + (houses - 1);
            due("n" + last, onPage(ring, "n" + last).made().letter(), houses - 1);
            due("r1" + last, onPage(ring, "r1" + last).made().letter(), 0);
            due("STEPS may be more than there are HOUSES", onPage(ring, "r90").made().letter(), 9 % houses);
        }
        refused("b45, both not there", onPage("hhhh", "b45"), UNKNOWN, HousesThatChange::letter);
    }

    private static void stateAheadOfUnknown() {
        refused("b55 of three", onPage("hhh", "b55"), STATE, HousesThatChange::letter);
        refused("r05 of three", onPage("hhh", "r05"), STATE, HousesThatChange::letter);
        refused("n50 of three", onPage("hhh", "n50"), STATE, HousesThatChange::letter);
        refused("n5 without a RING", () -> page("n5"), STATE, HousesThatChange::letter);
    }

    private static void letterEmptiesThePage() {
        for (String text : new String[] {"n0", "r10", "l10", "b01", "b02"}) {
            HousesThatChange x = onPage("hhhh", text).made();
            x.letter();
            due("count(4) behind " + text, x.count(4), 0);
            same("nothing else changes by " + text, x, houses(4));
        }
    }

    private static void toThatHouse() {
        for (int houses = 3; houses <= 6; houses++) {
            for (int house = 0; house < houses; house++) {
                due("n" + house, onPage("ewfhew".substring(0, houses), "n" + house).made().letter(), house);
            }
        }
    }

    private static void onAndBack() {
        for (int houses = 3; houses <= 6; houses++) {
            String ring = "hewfhh".substring(0, houses);
            for (int steps = 1; steps <= 9; steps++) {
                for (int house = 0; house < houses; house++) {
                    String text = "" + steps + house;
                    int on = (house + steps) % houses;
                    int back = (house + 4 * houses - steps) % houses;
                    due("r" + text + " of " + houses, onPage(ring, "r" + text).made().letter(), on);
                    due("l" + text + " of " + houses, onPage(ring, "l" + text).made().letter(), back);
                }
            }
        }
    }

    private static void besideBoth() {
        for (int houses = 3; houses <= 6; houses++) {
            for (int a = 0; a < houses; a++) {
                for (int b = 0; b < houses; b++) {
                    if (a != b) {
                        HousesThatChange x = onPage("whefhh".substring(0, houses), "b" + a + b).made();
                        due("b" + a + b + " of " + houses, x.letter(), oneBesideBoth(a, b, houses));
                    }
                }
            }
        }
    }

    /** Of three the third; of four none or two; of more the one between two that are two PLACES apart. */
    private static int oneBesideBoth(int a, int b, int houses) {
        if (houses == 3) {
            return 3 - a - b;
        }
        int on = (b - a + houses) % houses;
        if (houses == 4 || on != 2 && on != houses - 2) {
            return NONE;
        }
        return (on == 2 ? a + 1 : b + 1) % houses;
    }

    private static void letterNow() {
        HousesThatChange x = went("hhhhhh", "5");
        order(x, "512340");
        String[] texts = {"n5", "r15", "l15", "r10", "l10", "b50", "b10", "b54", "b02"};
        int[] due = {5, 1, 0, 5, 4, NONE, 5, 0, NONE};
        for (int i = 0; i < texts.length; i++) {
            write(x, texts[i]);
            due(texts[i], x.letter(), due[i]);
        }
    }
}

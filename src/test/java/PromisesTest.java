/** Each promise of the document, by its number: ordinary inputs, its edges, wrong inputs. */
public final class PromisesTest extends Check {
    public static void main(String[] args) {
        newObject();
        letters();
        blank();
        faultOfRing();
        faultOfLetter();
        ring();
        aim();
        letter();
        house();
        as();
        at();
        feud();
        touch();
        joins();
        walk();
        night();
        nights();
        seed();
        apart();
        choose();
        fewest();
        surely();
        odds();
        ways();
        must();
        image();
        restore();
        count();
        digest();
        withoutRing();
        finish("all promises are kept");
    }

    // promise 1
    private static void newObject() {
        HousesThatChange x = new HousesThatChange();
        int[] counts = {0, 0, 0, 1, 0, 0};
        for (int what = 0; what < counts.length; what++) {
            due("1: count(" + what + ")", x.count(what), counts[what]);
        }
        due("1: no RING", x.touch(), STATE);
        due("1: no AIM", x.fewest(), STATE);
    }

    // promise 2
    private static void letters() {
        HousesThatChange x = new HousesThatChange();
        due("2: none", x.letters(0), 0);
        due("2: one", x.letters('h'), 1);
        due("2: eight more", x.letters(packed("hh;01,02")), 9);
        due("2: the lowest byte comes first", x.fault(0), 9);
        due("2: above 126", x.letters(127), OUTSIDE);
        due("2: 126", x.letters(126), 10);
        due("2: 1", x.letters(1), 11);
        due("2: above 127", x.letters(128), OUTSIDE);
        due("2: the highest byte above 126", x.letters(packed("hhhhhhh") | 200L << 56), OUTSIDE);
        due("2: all bytes 255", x.letters(-1), OUTSIDE);
        due("2: behind a 0", x.letters('h' | (long) 'h' << 16), OUTSIDE);
        due("2: first byte 0", x.letters((long) 'h' << 8), OUTSIDE);
        due("2: last byte behind a 0", x.letters(packed("hhhhhh") | 1L << 56), OUTSIDE);
        due("2: refusals change nothing", x.count(4), 11);
        due("2: up to 19", x.letters(packed("12345678")), 19);
        due("2: 27 are too many", x.letters(packed("12345678")), FULL);
        due("2: OUTSIDE ahead of FULL", x.letters(packed("1234567") | 127L << 56), OUTSIDE);
        due("2: nothing comes of a refusal", x.count(4), 19);
        due("2: 26", x.letters(packed("1234567")), 26);
        due("2: none more", x.letters(0), 26);
        due("2: one more", x.letters('h'), FULL);
    }

    // promise 3
    private static void blank() {
        HousesThatChange x = page("hfew");
        due("3: had four", x.blank(), 4);
        due("3: is empty", x.count(4), 0);
        due("3: had none", x.blank(), 0);
        write(x, "hhh");
        due("3: only what came since", x.ring(), 3);
    }

    private static void fault(int sort, String text, int due) {
        due("4: fault(" + sort + ") of " + text, page(text).fault(sort), due);
    }

    // promise 4
    private static void faultOfRing() {
        due("4: empty", new HousesThatChange().fault(0), 0);
        fault(0, "h", 1);
        fault(0, "hfewhf", 6);
        fault(0, "hfewhfe", 6);
        fault(0, "hfx", 2);
        fault(0, "Hfe", 0);
        fault(0, "hf;", 2);
        fault(0, "hfe;", 4);
        fault(0, "hfewhf;", 7);
        fault(0, ";", 0);
        fault(0, "hfe,01", 3);
        fault(0, "hfe;0", 5);
        fault(0, "hfe;3", 4);
        fault(0, "hfe;03", 5);
        fault(0, "hfe;02", 6);
        fault(0, "hfe;00", 5);
        fault(0, "hfe;22", 5);
        fault(0, "hfe;012", 6);
        fault(0, "hfe;01;", 6);
        fault(0, "hfe;01,", 7);
        fault(0, "hfe;01,,", 7);
        fault(0, "hfe;01,10,01", 12);
        fault(0, "hfewhf;50,15,25,35,45,65", 22);
        fault(0, "hfewhf;50,15,25,35,45,05", 24);
        fault(0, "hfewhf;50,15,25,35,45,05,", 24);
        fault(0, "hfe;01,01,01,01,01,01,", 21);
        fault(0, "hfe;01,/0", 7);
        fault(0, "hfe;01 ", 6);
        HousesThatChange x = page("hfe;0x");
        due("4: below", x.fault(-1), OUTSIDE);
        due("4: above", x.fault(2), OUTSIDE);
        due("4: least", x.fault(MIN), OUTSIDE);
        due("4: most", x.fault(MAX), OUTSIDE);
        due("4: changes nothing", x.count(4), 6);
    }

    private static void faultOfLetter() {
        due("4: empty", new HousesThatChange().fault(1), 0);
        fault(1, "x", 0);
        fault(1, "n", 1);
        fault(1, "n5", 2);
        fault(1, "n6", 1);
        fault(1, "n01", 2);
        fault(1, "r", 1);
        fault(1, "r0", 1);
        fault(1, "r1", 2);
        fault(1, "r90", 3);
        fault(1, "r96", 2);
        fault(1, "r:0", 1);
        fault(1, "l15", 3);
        fault(1, "l155", 3);
        fault(1, "l05", 1);
        fault(1, "b", 1);
        fault(1, "b6", 1);
        fault(1, "b5", 2);
        fault(1, "b55", 2);
        fault(1, "b56", 2);
        fault(1, "b50", 3);
        fault(1, "b501", 3);
        fault(1, "n/", 1);
    }

    // promise 5
    private static void ring() {
        String[] none = {"", "hh", "hh;01", "hhhhhhh", "hhh;", "hhh;0", "hhh;01,", "hhh;01,1", "hhh;03", "hhh;11",
            "hhx", "hhh;0112", "hhhhhh;01,01,01,01,01,01,"};
        for (String text : none) {
            HousesThatChange x = page(text);
            due("5: " + text, x.ring(), STATE);
            due("5: the PAGE stays", x.count(4), text.length());
            due("5: none read", x.count(5), 0);
        }
        HousesThatChange x = aimed("hhhh;01", "1023");
        x.seed(7);
        x.night(0, 0);
        write(x, "hh");
        due("5: refused", x.ring(), STATE);
        due("5: refusals keep THE AIM", x.fewest(), 0);
        due("5: and the NIGHTS", x.count(2), 1);
        write(x, "h;02,12");
        due("5: another one", x.ring(), 3);
        due("5: THE PAGE is empty", x.count(4), 0);
        due("5: THE AIM is gone", x.fewest(), STATE);
        due("5: no PLACE in it", x.house(0, 3), NONE);
        due("5: the NIGHTS are gone", x.count(2), 0);
        due("5: no joins", x.joins(), 0);
        due("5: THE SEED is not", x.count(3), 7);
        due("5: old FEUDS are gone", x.feud(0, 1), 0);
        due("5: new ones are there", x.feud(0, 2), 1);
        due("5: read twice", x.count(5), 2);
        order(x, "012");
        due("5: old ones don't count", x.count(1), 2);
        due("5: nor for APART", x.apart(2, 0), 0);
        write(x, "hhh");
        x.ring();
        due("5: APART of the new RING", x.apart(2, 0), 1);
        write(x, "ffwh");
        x.ring();
        due("5: FIXED ones", x.night(0, 0), 0);
        write(x, "hheh");
        x.ring();
        due("5: are gone", x.night(0, 0), 1);
        due("5: of their KINDS, too", x.house(2, 0), 2);
        HousesThatChange full = ring("hfewhf;50,15,25,35,45,05");
        due("5: six FEUDS told, one of them twice", full.count(1), 5);
    }

    // promise 6
    private static void aim() {
        due("6: no RING", page("012").aim(), STATE);
        String[] none = {"", "012", "01234", "0122", "1123", "1234", "012x", "/012", "3 12"};
        HousesThatChange x = aimed("hhhh", "0132");
        due("6: THE PAGE is empty", x.count(4), 0);
        for (String text : none) {
            write(x, text);
            due("6: " + text, x.aim(), STATE);
            due("6: the PAGE stays", x.blank(), text.length());
            due("6: THE AIM stays", x.house(2, 3), 3);
        }
        write(x, "3210");
        due("6: another one", x.aim(), 4);
        due("6: in its place", x.house(2, 3), 1);
        due("6: three HOUSES", aimed("hfe", "201").house(2, 3), 0);
        due("6: six HOUSES", aimed("hfewhh", "543210").house(0, 3), 5);
        due("6: the order now stays", x.house(2, 1), 2);
    }

    private static void letter(HousesThatChange x, String text, int due) {
        write(x, text);
        due("7: " + text, x.letter(), due);
        due("7: the PAGE behind " + text, x.blank(), due == UNKNOWN || due == STATE ? text.length() : 0);
    }

    // promise 7
    private static void letter() {
        due("7: no RING", page("n0").letter(), STATE);
        due("7: no RING, a HOUSE that could not be there", page("n5").letter(), STATE);
        HousesThatChange x = ring("hehfw");
        letter(x, "n3", 3);
        letter(x, "n5", UNKNOWN);
        letter(x, "n6", STATE);
        letter(x, "n", STATE);
        letter(x, "", STATE);
        letter(x, "n00", STATE);
        letter(x, "r10", 1);
        letter(x, "r14", 0);
        letter(x, "r50", 0);
        letter(x, "r93", 2);
        letter(x, "l10", 4);
        letter(x, "l91", 2);
        letter(x, "l15", UNKNOWN);
        letter(x, "r05", STATE);
        letter(x, "b02", 1);
        letter(x, "b03", 4);
        letter(x, "b41", 0);
        letter(x, "b01", NONE);
        letter(x, "b05", UNKNOWN);
        letter(x, "b50", UNKNOWN);
        letter(x, "b11", STATE);
        letter(x, "b1", STATE);
        x.night(0, 0);
        letter(x, "r10", 2);
        letter(x, "l10", 1);
        letter(x, "b12", 0);
        letter(ring("hhh"), "b20", 1);
        letter(ring("hhh"), "b13", UNKNOWN);
        letter(ring("hhhh"), "b02", NONE);
        letter(ring("hhhh"), "b01", NONE);
        letter(ring("hhhhhh"), "b42", 3);
        letter(ring("hhhhhh"), "b03", NONE);
        letter(ring("hhhhhh"), "b50", NONE);
        letter(ring("hhhhhh"), "r70", 1);
        letter(ring("hhhhhh"), "l90", 3);
    }

    // promise 8
    private static void house() {
        due("8: no RING", new HousesThatChange().house(0, 0), UNKNOWN);
        due("8: no RING, no such number", new HousesThatChange().house(0, 9), UNKNOWN);
        HousesThatChange x = ring("hfewh");
        for (int house = 0; house < 5; house++) {
            due("8: KIND", x.house(house, 0), house % 4);
            due("8: PLACE", x.house(house, 1), house);
            due("8: ahead without a NIGHT", x.house(house, 2), house);
            due("8: no AIM", x.house(house, 3), NONE);
        }
        x.night(4, 0);
        x.night(4, -1);
        due("8: now", x.house(0, 1), 4);
        due("8: ahead, too, as nothing changed", x.house(0, 2), 4);
        x.night(4, 0);
        due("8: it came back", x.house(0, 1), 0);
        due("8: ahead of the last NIGHT", x.house(0, 2), 4);
        due("8: the other one", x.house(4, 2), 0);
        write(x, "41230");
        x.aim();
        due("8: in THE AIM", x.house(0, 3), 4);
        due("8: below", x.house(-1, 0), UNKNOWN);
        due("8: above", x.house(5, 0), UNKNOWN);
        due("8: far", x.house(MAX, MAX), UNKNOWN);
        due("8: what below", x.house(0, -1), OUTSIDE);
        due("8: what above", x.house(0, 4), OUTSIDE);
        due("8: what far", x.house(0, MIN), OUTSIDE);
    }

    // promise 9
    private static void as() {
        due("9: no RING", new HousesThatChange().as(0, 0), UNKNOWN);
        HousesThatChange x = ring("whfe");
        int[][] due = {{0, 0, NONE, 0}, {1, NONE, NONE, NONE}, {2, 2, NONE, NONE}, {3, NONE, 3, NONE}};
        for (int house = 0; house < 4; house++) {
            for (int kind = 0; kind < 4; kind++) {
                due("9: as(" + house + ", " + kind + ")", x.as(house, kind), due[house][kind]);
            }
        }
        due("9: no such HOUSE", x.as(4, 0), UNKNOWN);
        due("9: below", x.as(-1, 7), UNKNOWN);
        due("9: kind below", x.as(0, -1), OUTSIDE);
        due("9: kind above", x.as(0, 4), OUTSIDE);
    }

    // promise 10
    private static void at() {
        due("10: no RING", new HousesThatChange().at(0), UNKNOWN);
        HousesThatChange x = ring("hhhhhh");
        order(x, "012345");
        x.night(5, 0);
        order(x, "512340");
        due("10: below", x.at(-1), UNKNOWN);
        due("10: above", x.at(6), UNKNOWN);
        due("10: above in a small RING", ring("hhh").at(3), UNKNOWN);
    }

    // promise 11
    private static void feud() {
        due("11: no RING", new HousesThatChange().feud(0, 1), UNKNOWN);
        HousesThatChange x = ring("hhef;01,20,10");
        due("11: as told", x.feud(0, 1), 1);
        due("11: back", x.feud(1, 0), 1);
        due("11: told back", x.feud(0, 2), 1);
        due("11: none", x.feud(1, 2), 0);
        due("11: itself", x.feud(0, 0), 0);
        due("11: a below", x.feud(-1, 0), UNKNOWN);
        due("11: a above", x.feud(4, 0), UNKNOWN);
        due("11: b below", x.feud(0, -1), UNKNOWN);
        due("11: b above", x.feud(0, 4), UNKNOWN);
        x.night(0, 1);
        due("11: wherever they stand", x.feud(0, 2), 1);
    }

    // promise 12
    private static void touch() {
        due("12: no RING", new HousesThatChange().touch(), STATE);
        due("12: no FEUDS", ring("hhh").touch(), 0);
        due("12: told twice", ring("hhhh;01,10,01").touch(), 1);
        due("12: two", ring("hhhh;01,12").touch(), 2);
        due("12: round", ring("hhhh;03").touch(), 1);
        due("12: apart", ring("hhhh;02,13").touch(), 0);
        due("12: a is EMPTY", ring("ehh;01").touch(), 0);
        due("12: b is EMPTY", ring("heh;01").touch(), 0);
        due("12: FIXED ones quarrel", ring("hfw;01,02,12").touch(), 3);
        HousesThatChange x = ring("hhhhhh;03");
        due("12: across", x.touch(), 0);
        x.night(0, 0);
        due("12: nearer", x.touch(), 0);
        x.night(2, 0);
        due("12: beside one another", x.touch(), 1);
        x.night(0, 0);
        due("12: parted again", x.touch(), 0);
    }

    // promise 13
    private static void joins() {
        due("13: no RING", new HousesThatChange().joins(), STATE);
        HousesThatChange x = ring("heehf");
        due("13: without a NIGHT", x.joins(), 0);
        x.night(1, 0);
        due("13: two, EMPTY ones, too", x.joins(), 2);
        x.night(4, 0);
        due("13: a NIGHT that changed nothing", x.joins(), 0);
        x.night(1, 0);
        due("13: they were beside others ahead of the last NIGHT", x.joins(), 2);
        HousesThatChange three = ring("hhh");
        three.night(2, 0);
        due("13: three are always beside one another", three.joins(), 0);
        HousesThatChange four = ring("hhhh");
        four.night(3, 0);
        due("13: four", four.joins(), 2);
    }

    // promise 14
    private static void walk() {
        due("14: no RING", new HousesThatChange().walk(0), UNKNOWN);
        HousesThatChange x = ring("hhhhhh");
        int[] first = {0, 1, 2, 3, 2, 1};
        for (int house = 0; house < 6; house++) {
            due("14: without a NIGHT", x.walk(house), first[house]);
        }
        x.night(5, 0);
        due("14: 5 by 1, then on by 1", x.walk(5), 2);
        due("14: 0 by none, then back by 1", x.walk(0), 1);
        x.night(2, 0);
        due("14: 2 by 2, then by 1", x.walk(2), 3);
        due("14: 5 stays at 0", x.walk(5), 0);
        due("14: 0 stays at 5", x.walk(0), 1);
        due("14: below", x.walk(-1), UNKNOWN);
        due("14: above", x.walk(6), UNKNOWN);
        HousesThatChange five = ring("hhhhh");
        due("14: of five, 2", five.walk(2), 2);
        due("14: of five, 3", five.walk(3), 2);
    }

    // promise 15
    private static void night() {
        due("15: no RING", new HousesThatChange().night(0, 0), UNKNOWN);
        HousesThatChange x = ring("hhhhef");
        due("15: ordinary", x.night(1, 0), 1);
        order(x, "021345");
        due("15: one back", x.night(1, -1), 1);
        order(x, "201345");
        due("15: one on", x.night(1, 1), 1);
        order(x, "203145");
        due("15: EMPTY ones move", x.night(3, 0), 1);
        order(x, "203415");
        due("15: beside a FIXED one", x.night(4, 0), 0);
        due("15: the FIXED one", x.night(5, 0), 0);
        due("15: round on to 0", x.night(5, 1), 1);
        order(x, "023415");
        due("15: round back to 5", x.night(0, -1), 0);
        order(x, "023415");
        due("15: all count", x.count(2), 8);
        due("15: die below", x.night(-1, 0), UNKNOWN);
        due("15: die above", x.night(6, 9), UNKNOWN);
        due("15: choice below", x.night(0, -2), OUTSIDE);
        due("15: choice above", x.night(0, 2), OUTSIDE);
        due("15: refusals are no NIGHTS", x.count(2), 8);
        due("15: a WELL is FIXED", ring("hwh").night(0, 0), 0);
        HousesThatChange last = ring("hhh");
        due("15: the last PLACE and 0", last.night(2, 0), 1);
        order(last, "210");
    }

    // promise 16
    private static void nights() {
        due("16: no RING", new HousesThatChange().nights(0, 9), STATE);
        HousesThatChange x = ring("hhhhhh;01,23,45");
        due("16: no NIGHT", x.nights(0, 0), OUTSIDE);
        due("16: too many", x.nights(61, 0), OUTSIDE);
        due("16: far", x.nights(MIN, 0), OUTSIDE);
        due("16: rule below", x.nights(1, -1), OUTSIDE);
        due("16: rule above", x.nights(1, 2), OUTSIDE);
        due("16: refusals draw nothing", x.count(3), 1);
        due("16: one", x.nights(1, 0), 1);
        due("16: a draw", x.count(3), 1103527590);
        // 1103527590 by 65536 is 16838, its rest by 6 is 2
        order(x, "013245");
        due("16: another", x.nights(1, 0), 1);
        due("16: its draw", x.count(3), (1103515245L * 1103527590L + 12345L) % (1L << 31));
        due("16: two NIGHTS", x.count(2), 2);
        due("16: sixty", x.nights(60, 1) <= 60 ? 1 : 0, 1);
        due("16: they count", x.count(2), 62);
        // of six, one FEUD can always be kept apart
        due("16: by choice", ring("hhhhhh;03").nights(60, 1), 0);
        due("16: by chance", ring("hhhhhh;03").nights(60, 0) > 0 ? 1 : 0, 1);
        due("16: FIXED", ring("fff;01").nights(60, 0), 60);
        nightsByChoice("hhhhhf;01,12,34");
        HousesThatChange three = ring("hhhhhh;52,41,15,40");
        due("16: the DIE of the first draw for 1", three.choose(2, 1), -1);
        due("16: for 2", three.choose(2, 2), 0);
        due("16: for 3", three.choose(2, 3), 1);
        nightsByChoice("hhhhhh;52,41,15,40");
    }

    /** By RULE 1 each NIGHT is that of CHOOSE for 2 NIGHTS, though FEUDS TOUCH at first. */
    private static void nightsByChoice(String ring) {
        HousesThatChange x = ring(ring);
        HousesThatChange y = ring(ring);
        long seed = 1;
        for (int i = 0; i < 40; i++) {
            seed = (1103515245L * seed + 12345L) % (1L << 31);
            int die = (int) (seed / 65536 % 6);
            y.night(die, y.choose(die, 2));
            due("16: touch of NIGHT " + i, x.nights(1, 1), y.touch() > 0 ? 1 : 0);
            for (int place = 0; place < 6; place++) {
                due("16: order of NIGHT " + i, x.at(place), y.at(place));
            }
        }
    }

    // promise 17
    private static void seed() {
        HousesThatChange x = new HousesThatChange();
        due("17: it was 1", x.seed(0), 1);
        due("17: it was 0", x.seed(MAX), 0);
        due("17: below 0", x.seed(-1), OUTSIDE);
        due("17: far below", x.seed(MIN), OUTSIDE);
        due("17: it stays", x.count(3), MAX);
        write(x, "hhh");
        x.ring();
        x.nights(1, 0);
        due("17: drawn from the greatest", x.count(3), (1103515245L * MAX + 12345L) % (1L << 31));
    }

    private static void apart(String ring, int nights, int above, int below) {
        HousesThatChange x = ring(ring);
        due("18: " + ring + " above, " + nights, x.apart(nights, 0), above);
        due("18: " + ring + " below, " + nights, x.apart(nights, 1), below);
    }

    // promise 18
    private static void apart() {
        due("18: no RING", new HousesThatChange().apart(9, 9), STATE);
        apart("hhhh", 5, 1, 1);
        apart("hhhh;01", 0, 0, 1);
        apart("hhhh;01", 5, 0, 1);
        apart("hhhh;02", 0, 1, 1);
        // of four, each change joins what stood across; a FIXED one leaves a CHOICE by which nothing changes
        apart("hhhh;02", 1, 0, 1);
        apart("hfhh;02", 1, 1, 1);
        apart("hehh;13", 5, 1, 1);
        // of five, changes in 3 and 4 alone keep both FEUDS apart: the DIE 1 reaches neither
        apart("hhhhh;02", 1, 1, 1);
        apart("hhhhh;02,13", 0, 1, 1);
        apart("hhhhh;02,13", 1, 4, 5);
        HousesThatChange x = ring("hhhh;02");
        due("18: nights below", x.apart(-1, 0), OUTSIDE);
        due("18: nights above", x.apart(6, 0), OUTSIDE);
        due("18: part below", x.apart(0, -1), OUTSIDE);
        due("18: part above", x.apart(0, 2), OUTSIDE);
    }

    // promise 19
    private static void choose() {
        due("19: no RING", new HousesThatChange().choose(0, 0), UNKNOWN);
        HousesThatChange x = ring("hhhh");
        due("19: like ones", x.choose(0, 5), -1);
        due("19: die below", x.choose(-1, 0), UNKNOWN);
        due("19: die above", x.choose(4, 1), UNKNOWN);
        due("19: nights below", x.choose(0, 0), OUTSIDE);
        due("19: nights above", x.choose(0, 6), OUTSIDE);
        due("19: changes nothing", x.count(2), 0);
        int[] apart = {-1, -1, 1, 0, -1};
        choices("hhhhh;02,13", apart);
        // FEUDS that TOUCH now are parted by a change in 1 or 4
        int[] parted = {-1, 0, -1, 1, 0};
        choices("hhhhh;01", parted);
    }

    private static void choices(String ring, int[] due) {
        HousesThatChange x = ring(ring);
        for (int die = 0; die < due.length; die++) {
            due("19: " + ring + " by the DIE " + die, x.choose(die, 1), due[die]);
        }
    }

    private static void away(String ring, String aim, int fewest, int surely) {
        HousesThatChange x = aimed(ring, aim);
        due("20: " + ring + " to " + aim, x.fewest(), fewest);
        due("21: " + ring + " to " + aim, x.surely(), surely);
    }

    // promise 20
    private static void fewest() {
        due("20: no RING", new HousesThatChange().fewest(), STATE);
        due("20: no AIM", ring("hhh").fewest(), STATE);
        away("hhhh", "0123", 0, 0);
        away("hhhf", "1203", 2, NONE);
        away("hhhf", "2103", 3, NONE);
        away("hfhh", "2103", 3, NONE);
        away("hfhf", "2103", NONE, NONE);
        away("fhhw", "3120", NONE, NONE);
        HousesThatChange x = aimed("hhhh", "1230");
        due("20: a turn of four", x.fewest(), 3);
        x.night(0, 0);
        due("20: from the ORDER now", x.fewest(), 2);
        due("20: and not surely", x.surely(), NONE);
        write(x, "1023");
        x.aim();
        due("20: another AIM", x.fewest(), 0);
        due("21: another AIM", x.surely(), 0);
    }

    // promise 21
    private static void surely() {
        due("21: no RING", new HousesThatChange().surely(), STATE);
        due("21: no AIM", ring("hhh").surely(), STATE);
        // with three HOUSES each DIE leaves each PLACE to the choice
        away("hhh", "021", 1, 1);
        away("hhh", "102", 1, 1);
        away("hhh", "210", 1, 1);
        // of four, each change is out of one DIE's reach
        away("hhhh", "1023", 1, NONE);
        away("hhhh", "0213", 1, NONE);
        away("hhhh", "0132", 1, NONE);
        away("hhhh", "3120", 1, NONE);
        away("hhh", "120", 2, 2);
        away("hhf", "102", 1, 1);
        away("hff", "012", 0, 0);
        HousesThatChange x = aimed("hhh", "120");
        x.night(0, 0);
        due("21: from the ORDER now", x.surely(), 1);
        away("hhhhhh", "102345", 1, NONE);
        HousesThatChange turned = aimed("hhh", "012");
        turned.night(0, 0);
        turned.night(1, 0);
        due("21: two NIGHTS back", turned.surely(), 2);
    }

    private static void odds(String ring, int house, int place, int nights, int above, int below) {
        HousesThatChange x = ring(ring);
        String what = "22: " + ring + " " + house + " in " + place + " behind " + nights;
        due(what + " above", x.odds(house, place, nights, 0), above);
        due(what + " below", x.odds(house, place, nights, 1), below);
    }

    // promise 22
    private static void odds() {
        due("22: no RING", new HousesThatChange().odds(0, 0, 9, 9), UNKNOWN);
        odds("hhhh", 0, 0, 0, 1, 1);
        odds("hhhh", 0, 1, 0, 0, 1);
        odds("hhhh", 0, 0, 1, 1, 2);
        odds("hhhh", 0, 1, 1, 1, 4);
        odds("hhhh", 0, 2, 1, 0, 1);
        odds("hhhh", 0, 2, 2, 1, 8);
        odds("hhh", 0, 1, 8, 1, 3);
        odds("fhh", 0, 0, 8, 1, 1);
        odds("fhh", 1, 2, 1, 1, 3);
        odds("fhh", 1, 1, 2, 5, 9);
        HousesThatChange x = ring("hhhh");
        due("22: house below", x.odds(-1, 0, 0, 0), UNKNOWN);
        due("22: house above", x.odds(4, 0, 0, 0), UNKNOWN);
        due("22: place below", x.odds(0, -1, 0, 0), UNKNOWN);
        due("22: place above", x.odds(0, 4, 9, 0), UNKNOWN);
        due("22: nights below", x.odds(0, 0, -1, 0), OUTSIDE);
        due("22: nights above", x.odds(0, 0, 9, 0), OUTSIDE);
        due("22: part below", x.odds(0, 0, 8, -1), OUTSIDE);
        due("22: part above", x.odds(0, 0, 8, 2), OUTSIDE);
        x.night(0, 0);
        due("22: from the ORDER now", x.odds(0, 1, 0, 0), 1);
    }

    private static void past(HousesThatChange x, int nights, long ways, int must) {
        due("23: ways(" + nights + ")", x.ways(nights), ways);
        due("24: must(" + nights + ")", x.must(nights), must);
    }

    // promise 23
    private static void ways() {
        due("23: no RING", new HousesThatChange().ways(99), STATE);
        HousesThatChange x = ring("hhhh");
        past(x, 0, 1, 0);
        past(x, 1, 0, 0);
        past(x, 2, 4, 0);
        x.night(2, 0);
        past(x, 0, 0, 0);
        past(x, 1, 1, 4);
        past(x, 2, 0, 0);
        due("23: below", x.ways(-1), OUTSIDE);
        due("23: above", x.ways(13), OUTSIDE);
        HousesThatChange six = ring("hhhhhh");
        // of 6 to the 12 rows each leads to one of the 360 even ORDERS
        due("23: twelve", six.ways(12) > 6046617 ? 1 : 0, 1);
        HousesThatChange still = ring("hfhf");
        still.night(0, 0);
        past(still, 0, 1, 0);
        past(still, 1, 0, 0);
    }

    // promise 24
    private static void must() {
        due("24: no RING", new HousesThatChange().must(99), STATE);
        HousesThatChange x = ring("hhhhhf");
        x.night(0, 0);
        x.night(3, 0);
        past(x, 2, 2, 9);
        due("24: four, too", x.must(4), 9);
        due("24: below", x.must(-1), OUTSIDE);
        due("24: above", x.must(13), OUTSIDE);
        // by 0 0 0, 0 1 1, 1 1 0
        HousesThatChange three = ring("hhhf");
        three.night(0, 0);
        past(three, 1, 1, 1);
        past(three, 3, 3, 1);
        HousesThatChange only = ring("hhf");
        only.night(0, 0);
        due("24: asked alone", only.must(11), 1);
        due("24: one of no such length", only.must(10), 0);
        only.night(0, 0);
        due("24: there and back", only.must(2), 1);
        due("24: of no NIGHTS, behind that", only.must(0), 0);
        only.night(0, 0);
        past(only, 11, 1, 1);
        past(only, 12, 0, 0);
    }

    // promise 25
    private static void image() {
        due("25: no RING", new HousesThatChange().image(), STATE);
        HousesThatChange x = ring("hhh");
        due("25: no NIGHTS", x.image(), 0);
        x.night(0, 0);
        x.nights(3, 0);
        due("25: four", x.image(), 4);
        x.night(0, 0);
        due("25: the latest", x.restore(), 4);
    }

    // promise 26
    private static void restore() {
        due("26: no RING", new HousesThatChange().restore(), STATE);
        HousesThatChange x = ring("hhhhh");
        due("26: none was kept", x.restore(), STATE);
        x.night(0, 0);
        x.night(1, 0);
        x.seed(77);
        x.image();
        write(x, "43210");
        x.aim();
        write(x, "n0");
        x.nights(9, 0);
        due("26: two NIGHTS", x.restore(), 2);
        order(x, "12034");
        due("26: as many NIGHTS", x.count(2), 2);
        due("26: THE SEED", x.count(3), 77);
        due("26: the ORDER ahead", x.house(0, 2), 1);
        due("26: THE AIM stays", x.house(0, 3), 4);
        due("26: THE PAGE stays", x.count(4), 2);
        x.night(0, 0);
        due("26: again", x.restore(), 2);
        order(x, "12034");
        due("26: a RING that is none", x.ring(), STATE);
        due("26: keeps it", x.restore(), 2);
        x.blank();
        write(x, "hhhhh");
        x.ring();
        due("26: the same text", x.restore(), STATE);
        due("26: changes nothing", x.count(2), 0);
        x.image();
        due("26: a new one", x.restore(), 0);
    }

    // promise 27
    private static void count() {
        HousesThatChange x = ring("hhew;01,10,12,20");
        write(x, "abc");
        x.night(0, 0);
        x.seed(5);
        int[] counts = {4, 3, 1, 5, 3, 1};
        for (int what = 0; what < counts.length; what++) {
            due("27: count(" + what + ")", x.count(what), counts[what]);
        }
        due("27: below", x.count(-1), OUTSIDE);
        due("27: above", x.count(6), OUTSIDE);
        due("27: far", x.count(MIN), OUTSIDE);
    }

    private static long mixed(long... numbers) {
        long h = 571;
        for (long number : numbers) {
            h = 31 * h + number;
        }
        return h;
    }

    // promise 28
    private static void digest() {
        due("28: new", new HousesThatChange().digest(), mixed(0, 0, 0, 1, 0, 0));
        due("28: a PAGE", page("a~").digest(), mixed('a', '~', 0, 0, 0, 1, 2, 0));
        HousesThatChange x = ring("hew;02");
        due("28: a RING", x.digest(), mixed(0, 0, 0, NONE, 0, 0, 1, 0, 2, 1, 1, NONE, 0, 0, 0, 1,
            3, 2, 2, NONE, 1, 0, 0, 1, 1, 0, 0, 1, 0, 0, 3, 1, 0, 1, 0, 1));
        x.night(0, 0);
        write(x, "012");
        x.aim();
        write(x, "n");
        long due = mixed(0, 1, 0, 0, 0, 0, 1, 1, 2, 0, 1, 1, 0, 0, 0, 2,
            3, 2, 2, 2, 1, 0, 0, 1, 1, 0, 0, 1, 1, 1, 1, 1, 'n', 3, 1, 1, 1, 1, 1);
        due("28: and an AIM", x.digest(), due);
        due("28: changes nothing", x.digest(), due);
        HousesThatChange five = ring("hhhhh;02,13");
        five.night(3, 0);
        due("28: the parts that three HOUSES leave at 0", five.digest(), digestOfCalls(five));
        due("28: JOINS", five.joins(), 2);
        due("28: APART of 2 and of 3 NIGHTS", five.apart(2, 1) == five.apart(3, 1) ? 1 : 0, 0);
    }

    private static long digestOfCalls(HousesThatChange x) {
        long h = mixed();
        int houses = x.count(0);
        for (int house = 0; house < houses; house++) {
            for (int what = 0; what < 4; what++) {
                h = 31 * h + x.house(house, what);
            }
            for (int other = 0; other < houses; other++) {
                h = 31 * h + x.feud(house, other);
            }
            h = 31 * h + x.walk(house);
        }
        long[] more = {x.touch(), x.joins(), x.apart(2, 0), x.apart(2, 1), x.ways(3), x.must(3), x.count(0), x.count(1),
            x.count(2), x.count(3), x.count(4), x.count(5)};
        for (long number : more) {
            h = 31 * h + number;
        }
        return h;
    }

    /** "Without a RING: STATE, where it is told, behind UNKNOWN." */
    private static void withoutRing() {
        HousesThatChange x = new HousesThatChange();
        long[] states = {x.ring(), x.aim(), x.letter(), x.touch(), x.joins(), x.nights(1, 0), x.apart(0, 0),
            x.fewest(), x.surely(), x.ways(0), x.must(0), x.image(), x.restore()};
        for (long state : states) {
            due("no RING", state, STATE);
        }
        long[] unknown = {x.house(0, 0), x.as(0, 0), x.at(0), x.feud(0, 0), x.walk(0), x.night(0, 0),
            x.choose(0, 1), x.odds(0, 0, 0, 0)};
        for (long answer : unknown) {
            due("no RING", answer, UNKNOWN);
        }
        due("nothing changed", x.digest(), new HousesThatChange().digest());
    }
}

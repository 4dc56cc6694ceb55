import java.util.ArrayList;
import java.util.List;

/** What the tests share: objects made ready by texts, and answers held against those that are due. */
abstract class Check {
    static final int NONE = -1, UNKNOWN = -101, OUTSIDE = -102, STATE = -103, FULL = -104;
    static final int MIN = Integer.MIN_VALUE, MAX = Integer.MAX_VALUE;
    /** Far from all that a call takes, some of them near to it if their higher bits are lost. */
    static final int[] FAR = {MIN, MIN + 1, MIN + 2, -65536, -256, -255, -102, -101, -100, -32, -31, -16, -8, -7,
        16, 17, 32, 33, 48, 64, 65, 100, 256, 257, 65536, 65537, 1 << 30, MAX - 1, MAX};
    static final String FULL_PAGE = "abcdefghijklmnopqrstuvwxyz";

    private static String edge = "";
    private static int edges = 0;
    private static int wrong = 0;

    /** A call on an object. */
    interface Call {
        long on(HousesThatChange x);
    }

    /** A call on an object by one number. */
    interface CallBy {
        long on(HousesThatChange x, int number);
    }

    /** How an object is made ready. */
    interface Start {
        HousesThatChange made();
    }

    static void due(String what, long got, long want) {
        if (got != want) {
            wrong++;
            System.out.println(edge + what + " answered " + got + ", due is " + want);
        }
    }

    /** One sentence of the document, and the test of it. */
    static void edge(String sentence, Runnable test) {
        edges++;
        edge = sentence + " | ";
        try {
            test.run();
        } catch (RuntimeException thrown) {
            wrong++;
            System.out.println(edge + "threw " + thrown);
        }
        edge = "";
    }

    static void finish(String right) {
        String counted = edges == 0 ? "" : " (" + edges + " sentences)";
        System.out.println(wrong == 0 ? right + counted : wrong + " answers are not as due");
        System.exit(wrong == 0 ? 0 : 1);
    }

    // ---- objects made ready

    static long packed(String text) {
        long w = 0;
        for (int i = 0; i < text.length(); i++) {
            w |= (long) text.charAt(i) << 8 * i;
        }
        return w;
    }

    static void write(HousesThatChange x, String text) {
        for (int from = 0; from < text.length(); from += 8) {
            x.letters(packed(text.substring(from, Math.min(from + 8, text.length()))));
        }
    }

    static HousesThatChange page(String text) {
        HousesThatChange x = new HousesThatChange();
        write(x, text);
        return x;
    }

    static int housesOf(String ring) {
        return ring.contains(";") ? ring.indexOf(';') : ring.length();
    }

    static HousesThatChange ring(String text) {
        HousesThatChange x = page(text);
        due("ring() of " + text, x.ring(), housesOf(text));
        return x;
    }

    /** So many HOUSES that can move. */
    static HousesThatChange houses(int houses) {
        return ring("hhhhhh".substring(0, houses));
    }

    static HousesThatChange aimed(String ring, String aim) {
        HousesThatChange x = ring(ring);
        write(x, aim);
        due("aim() of " + aim, x.aim(), aim.length());
        return x;
    }

    /** NIGHTS by these PLACES, told as digits. */
    static HousesThatChange went(String ring, String places) {
        HousesThatChange x = ring(ring);
        for (int i = 0; i < places.length(); i++) {
            x.night(places.charAt(i) - '0', 0);
        }
        return x;
    }

    /** With an IMAGE of two NIGHTS, three more by THE SEED, THE AIM, and letters on THE PAGE that are no text. */
    static HousesThatChange lived() {
        HousesThatChange x = aimed("hhheh;02,13", "43210");
        x.seed(77);
        x.night(0, 0);
        x.night(2, 0);
        x.image();
        x.nights(3, 0);
        write(x, "n0x");
        return x;
    }

    static HousesThatChange livedWithFullPage() {
        HousesThatChange x = lived();
        x.blank();
        write(x, FULL_PAGE);
        return x;
    }

    static String first(int houses) {
        return "012345".substring(0, houses);
    }

    // ---- answers

    static void order(HousesThatChange x, String due) {
        for (int place = 0; place < due.length(); place++) {
            due("at(" + place + ") of " + due, x.at(place), due.charAt(place) - '0');
        }
    }

    /** The call takes all from least to most, and refuses so the next ones on either side and those far away. */
    static void takes(String what, Start start, int least, int most, int refusal, CallBy call) {
        for (int number = least; number <= most; number++) {
            long answer = call.on(start.made(), number);
            due(what + " by " + number + ", which is taken,", answer, Math.max(answer, NONE));
        }
        refused(what + " by " + (least - 1), start, refusal, x -> call.on(x, least - 1));
        refused(what + " by " + (most + 1), start, refusal, x -> call.on(x, most + 1));
        for (int far : FAR) {
            if (far < least || far > most) {
                due(what + " by " + far, call.on(start.made(), far), refusal);
            }
        }
    }

    /** The call answers this refusal, and then all is as on an object that was not called. */
    static void refused(String what, Start start, int refusal, Call call) {
        HousesThatChange x = start.made();
        due(what, call.on(x), refusal);
        same(what + " changes nothing", x, start.made());
    }

    static void same(String what, HousesThatChange x, HousesThatChange other) {
        List<String> got = told(x);
        List<String> want = told(other);
        for (int i = 0; i < Math.min(got.size(), want.size()); i++) {
            if (!got.get(i).equals(want.get(i))) {
                wrong++;
                System.out.println(edge + what + ": " + got.get(i) + ", due is " + want.get(i));
                return;
            }
        }
        due(what + ": how much is told", got.size(), want.size());
    }

    /** What an object tells of all; the last calls change it, and tell what it keeps for them. */
    static List<String> told(HousesThatChange x) {
        List<String> told = new ArrayList<>();
        told.add("digest " + x.digest());
        for (int what = 0; what <= 5; what++) {
            told.add("count " + what + " " + x.count(what));
        }
        tellPlaces(x, told);
        for (int nights = 0; nights <= 4; nights++) {
            told.add("apart " + nights + " " + x.apart(nights, 0) + "/" + x.apart(nights, 1));
            told.add("ways " + nights + " " + x.ways(nights) + " must " + x.must(nights));
        }
        told.add("fault " + x.fault(0) + " " + x.fault(1));
        told.add("fewest " + x.fewest() + " surely " + x.surely());
        told.add("a draw " + x.nights(1, 0) + " " + x.count(3) + " " + x.digest());
        told.add("by choice " + x.nights(2, 1) + " " + x.digest());
        told.add("restore " + x.restore() + " " + x.digest());
        told.add("ring " + x.ring() + " letter " + x.letter() + " aim " + x.aim() + " blank " + x.blank());
        return told;
    }

    private static void tellPlaces(HousesThatChange x, List<String> told) {
        told.add("touch " + x.touch() + " joins " + x.joins());
        for (int i = 0; i < x.count(0); i++) {
            told.add("house " + i + " " + x.house(i, 0) + " " + x.house(i, 1) + " " + x.house(i, 2) + " "
                + x.house(i, 3) + " walk " + x.walk(i) + " at " + x.at(i) + " as " + x.as(i, 1));
            told.add("choose " + i + " " + x.choose(i, 1) + " " + x.choose(i, 3));
            told.add("odds " + i + " " + x.odds(i, i, 2, 0) + "/" + x.odds(i, i, 2, 1));
        }
    }
}

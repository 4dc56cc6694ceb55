import java.util.Random;

/** Runs of calls by chance (always the same ones), each answer held against that of PlainHouses. */
public final class RandomRunsTest {
    private static final int RUNS = 500;
    /** A step makes far fewer than fifty calls, and what comes behind the 512th is free. */
    private static final int MOST_CALLS = 512 - 50;
    private static final int MOST_TOLD = 20;

    private final Random random;
    private final int run;
    private HousesThatChange program = new HousesThatChange();
    private PlainHouses plain = new PlainHouses();
    private final StringBuilder calls = new StringBuilder();
    private int made;
    private static int wrong = 0;

    private RandomRunsTest(int run) {
        this.run = run;
        this.random = new Random(571 + run);
    }

    public static void main(String[] args) {
        for (int run = 0; run < RUNS && wrong < MOST_TOLD; run++) {
            new RandomRunsTest(run).go();
        }
        System.out.println(wrong == 0 ? RUNS + " runs are as due" : "answers are not as due");
        System.exit(wrong == 0 ? 0 : 1);
    }

    private void go() {
        int before = wrong;
        // a quarter of the runs begins without a RING
        if (run % 4 != 0) {
            readRing();
        }
        while (made < MOST_CALLS && wrong == before) {
            step();
        }
        if (wrong != before) {
            System.out.println("run " + run + ":" + calls);
        }
    }

    private void due(String call, long got, long want) {
        made++;
        calls.append(' ').append(call).append('=').append(got);
        if (got != want) {
            wrong++;
            System.out.println(call + " answered " + got + ", due is " + want);
        }
    }

    private int near(int least, int most) {
        if (random.nextInt(40) == 0) {
            int[] far = {Integer.MIN_VALUE, Integer.MAX_VALUE, -1000, 1000, least - 1, most + 1};
            return far[random.nextInt(far.length)];
        }
        return least + random.nextInt(most - least + 1);
    }

    private void write(String text) {
        for (int from = 0; from < text.length(); from += 8) {
            long w = 0;
            for (int i = 0; i < 8 && from + i < text.length(); i++) {
                w |= (long) text.charAt(from + i) << 8 * i;
            }
            due("letters(" + w + ")", program.letters(w), plain.letters(w));
        }
    }

    private void blank() {
        due("blank()", program.blank(), plain.blank());
    }

    private void readRing() {
        blank();
        write(ringText());
        due("fault(0)", program.fault(0), plain.fault(0));
        due("ring()", program.ring(), plain.ring());
    }

    private String ringText() {
        int houses = 3 + random.nextInt(4);
        String kinds = random.nextInt(3) == 0 ? "hfew" : random.nextBoolean() ? "hhhhhhfew" : "hhhhe";
        StringBuilder text = new StringBuilder();
        for (int i = 0; i < houses; i++) {
            text.append(kinds.charAt(random.nextInt(kinds.length())));
        }
        int feuds = random.nextInt(7);
        for (int i = 0; i < feuds; i++) {
            int a = random.nextInt(houses);
            int b = (a + 1 + random.nextInt(houses - 1)) % houses;
            text.append(i == 0 ? ';' : ',').append(a).append(b);
        }
        return spoilt(text);
    }

    private String spoilt(StringBuilder text) {
        if (random.nextInt(6) == 0) {
            String letters = "hfew;,0123456789nrlbx~\u0001";
            char letter = letters.charAt(random.nextInt(letters.length()));
            int place = random.nextInt(text.length());
            int sort = random.nextInt(3);
            if (sort == 0) {
                text.setCharAt(place, letter);
            } else if (sort == 1) {
                text.insert(place, letter);
            } else {
                text.setLength(place);
            }
        }
        return text.toString();
    }

    private void readAim() {
        int houses = plain.count(0) == 0 ? 3 : plain.count(0);
        StringBuilder text = new StringBuilder();
        for (int place = 0; place < houses; place++) {
            int house = plain.at(place);
            text.append(house < 0 ? place : house);
        }
        int changes = random.nextInt(6);
        for (int i = 0; i < changes; i++) {
            int a = random.nextInt(houses);
            int b = random.nextInt(3) == 0 ? random.nextInt(houses) : (a + 1) % houses;
            char was = text.charAt(a);
            text.setCharAt(a, text.charAt(b));
            text.setCharAt(b, was);
        }
        blank();
        write(spoilt(text));
        due("aim()", program.aim(), plain.aim());
        askAim();
    }

    private void askAim() {
        due("fewest()", program.fewest(), plain.fewest());
        due("surely()", program.surely(), plain.surely());
    }

    private void readLetter() {
        int sort = random.nextInt(4);
        StringBuilder text = new StringBuilder().append("nrlb".charAt(sort));
        if (sort == 1 || sort == 2) {
            text.append(1 + random.nextInt(9));
        }
        int houses = Math.max(1, plain.count(0));
        int a = random.nextInt(8) == 0 ? random.nextInt(10) : random.nextInt(houses);
        text.append(a);
        if (sort == 3) {
            text.append(random.nextInt(8) == 0 ? a : (a + 1 + random.nextInt(5)) % 6);
        }
        if (random.nextInt(4) != 0) {
            blank();
        }
        write(spoilt(text));
        due("fault(1)", program.fault(1), plain.fault(1));
        due("letter()", program.letter(), plain.letter());
    }

    private void writeAnything() {
        long w = random.nextInt(4) == 0 ? random.nextLong() : 0;
        int letters = random.nextInt(9);
        for (int i = 0; i < letters && w >= 0; i++) {
            int[] codes = {1, 'h', 'f', 'e', 'w', ';', ',', '0', '1', '5', '6', 'n', 'r', 'b', 126, 127, 128, 0};
            w |= (long) codes[random.nextInt(codes.length)] << 8 * i;
        }
        due("letters(" + w + ")", program.letters(w), plain.letters(w));
        int sort = near(0, 1);
        due("fault(" + sort + ")", program.fault(sort), plain.fault(sort));
    }

    private void step() {
        int chance = random.nextInt(100);
        if (chance < 4) {
            readRing();
        } else if (chance < 12) {
            readAim();
        } else if (chance < 18) {
            readLetter();
        } else if (chance < 21) {
            writeAnything();
        } else if (chance < 24) {
            all();
        } else if (chance < 50) {
            askHouses();
        } else if (chance < 75) {
            goOn();
        } else {
            askNights();
        }
    }

    private void all() {
        int sort = random.nextInt(4);
        if (sort == 0) {
            due("image()", program.image(), plain.image());
        } else if (sort == 1) {
            due("restore()", program.restore(), plain.restore());
        } else {
            due("digest()", program.digest(), plain.digest());
        }
    }

    private void askHouses() {
        int most = Math.max(1, plain.count(0)) - 1;
        int a = near(0, most);
        int b = near(0, most);
        int what = near(0, 3);
        int count = near(0, 5);
        due("house(" + a + "," + what + ")", program.house(a, what), plain.house(a, what));
        due("as(" + a + "," + what + ")", program.as(a, what), plain.as(a, what));
        due("at(" + a + ")", program.at(a), plain.at(a));
        due("feud(" + a + "," + b + ")", program.feud(a, b), plain.feud(a, b));
        due("touch()", program.touch(), plain.touch());
        due("joins()", program.joins(), plain.joins());
        due("walk(" + a + ")", program.walk(a), plain.walk(a));
        due("count(" + count + ")", program.count(count), plain.count(count));
    }

    private void goOn() {
        int sort = random.nextInt(8);
        if (sort == 0) {
            int seed = random.nextInt(3) == 0 ? near(0, 100) : random.nextInt(Integer.MAX_VALUE);
            due("seed(" + seed + ")", program.seed(seed), plain.seed(seed));
        } else if (sort == 1) {
            int nights = near(1, random.nextInt(5) == 0 ? 60 : 5);
            int rule = near(0, 1);
            due("nights(" + nights + "," + rule + ")", program.nights(nights, rule), plain.nights(nights, rule));
        } else {
            int die = near(0, Math.max(1, plain.count(0)) - 1);
            int choice = near(-1, 1);
            due("night(" + die + "," + choice + ")", program.night(die, choice), plain.night(die, choice));
        }
    }

    private void askNights() {
        int most = Math.max(1, plain.count(0)) - 1;
        int die = near(0, most);
        int other = near(0, most);
        int part = near(0, 1);
        int few = near(0, random.nextInt(4) == 0 ? 5 : 2);
        int some = near(0, random.nextInt(4) == 0 ? 8 : 4);
        int many = near(0, random.nextInt(4) == 0 ? 12 : 5);
        int sort = random.nextInt(4);
        if (sort == 0) {
            due("apart(" + few + "," + part + ")", program.apart(few, part), plain.apart(few, part));
            due("choose(" + die + "," + few + ")", program.choose(die, few), plain.choose(die, few));
        } else if (sort == 1) {
            String call = "odds(" + die + "," + other + "," + some + "," + part + ")";
            due(call, program.odds(die, other, some, part), plain.odds(die, other, some, part));
        } else if (sort == 2) {
            due("ways(" + many + ")", program.ways(many), plain.ways(many));
            due("must(" + many + ")", program.must(many), plain.must(many));
        } else {
            askAim();
        }
    }
}

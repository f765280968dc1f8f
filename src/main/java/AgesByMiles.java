import java.util.Arrays;

/** People for whom time does nothing and ways all: ../shared/DOC.md tells each call as a promise. */
public final class AgesByMiles {
    private static final int NOBODY = -1;
    private static final int OTHER = -2;
    private static final int STATE = -3;
    private static final int BELOW = -4;
    private static final int ROOM = -6;
    private static final int NONE = -9;
    private static final long LONG_REFUSALS = 4000000000000000000L;

    private static final int MOST_PLACES = 8;
    private static final int MOST_WAYS = 14;
    private static final int MOST_WAY_MILES = 200;
    private static final int MOST_THINGS = 7;
    private static final int MOST_PEOPLE = 4;
    private static final int MOST_MILES = 999;
    private static final int MOST_CALLS = 6;
    private static final int MOST_STEPS = 15;
    private static final int TAPE_BYTES = 64;
    private static final int ROW_BYTES = 10;
    /** Above every AGE, so that what can not be come to lies beyond every END. */
    private static final int NO_WAY = 100000;
    private static final int NO_WELL = 1000;

    private static final int GROWN = 0;
    private static final int OLD = 1;
    private static final int END = 2;
    private static final int HOME = 3;

    private static final String KIND_LETTERS = "oabygl";

    private Told told = new Told();
    /** A LAND is read into this one, so that a FAULT leaves all as it was. */
    private Told draft = new Told();
    private final Told pictured = new Told();
    private boolean isPictured = false;
    private final Reader reader = new Reader();
    private final Lives lives = new Lives();
    private final int[] tape = new int[TAPE_BYTES];
    private int taped = 0;
    private final int[] walk = new int[ROW_BYTES];
    private int walked = 0;
    /** By half the miles left: each CALL goes there and back, so an odd mile is of no use. */
    private final long[] means = new long[MOST_MILES / 2 + 1];
    private final long[] steps = new long[MOST_STEPS + 1];
    private final int[] refusals = new int[-ROOM + 1];

    public AgesByMiles() {
    }

    public int feed(int n, long bytes) {
        if (n < 1) {
            return refuse(BELOW);
        }
        if (n > 8 || taped + n > TAPE_BYTES) {
            return refuse(ROOM);
        }
        for (int i = 0; i < n; i++) {
            tape[taped + i] = (int) (bytes >>> (8 * i)) & 255;
        }
        taped += n;
        return taped;
    }

    public int land() {
        draft.copyFrom(told);
        int answer = reader.read(tape, taped, draft);
        taped = 0;
        if (answer > 0) {
            draft.reckonFar();
            Told before = told;
            told = draft;
            draft = before;
        }
        return answer;
    }

    public int far(int from, int to) {
        if (!told.isPlace(from) || !told.isPlace(to)) {
            return refuse(NOBODY);
        }
        int miles = told.miles(from, to);
        return miles < NO_WAY ? miles : NONE;
    }

    public int thing(int thing, int what) {
        if (!told.isThing(thing)) {
            return refuse(NOBODY);
        }
        switch (what) {
            case 0:
                return told.things[thing].kind;
            case 1:
                return told.things[thing].place;
            case 2:
                return told.things[thing].worth;
            case 3:
                return told.things[thing].ask;
            case 4:
                return told.atHand.had[thing];
            default:
                return refuse(OTHER);
        }
    }

    public int set(int what, int v) {
        if (what < GROWN || what > HOME) {
            return refuse(OTHER);
        }
        if (what == HOME && !told.isPlace(v)) {
            return refuse(NOBODY);
        }
        if (v < (what == END ? 1 : 0)) {
            return refuse(BELOW);
        }
        if (v > MOST_MILES) {
            return refuse(ROOM);
        }
        int before = told.settings[what];
        told.settings[what] = v;
        return before;
    }

    public int go(int place) {
        if (!told.isPlace(place)) {
            return refuse(NOBODY);
        }
        if (!told.atHand.canCome(told, place)) {
            return refuse(STATE);
        }
        told.atHand.come(told, place);
        return told.atHand.age;
    }

    public int have(int thing) {
        if (!told.isThing(thing)) {
            return refuse(NOBODY);
        }
        if (!told.atHand.mayTake(told, thing)) {
            return refuse(STATE);
        }
        return told.atHand.take(told, thing);
    }

    public int worthAt(int thing, int age, int n) {
        if (!told.isThing(thing)) {
            return refuse(NOBODY);
        }
        if (age < 0 || n < 0) {
            return refuse(BELOW);
        }
        if (age > MOST_MILES || n > 20) {
            return refuse(ROOM);
        }
        return told.things[thing].worthThen(age, n, told.settings);
    }

    public int may(int thing) {
        if (!told.isThing(thing)) {
            return refuse(NOBODY);
        }
        return told.atHand.mayTake(told, thing) ? 1 : 0;
    }

    public int life(int what) {
        switch (what) {
            case 0:
                return told.atHand.at;
            case 1:
                return told.atHand.age;
            case 2:
                return told.atHand.worth;
            case 3:
                return told.atHand.age >= told.settings[GROWN] ? 1 : 0;
            case 4:
                return told.atHand.age >= told.settings[OLD] ? 1 : 0;
            default:
                return refuse(OTHER);
        }
    }

    public int nextLife() {
        int before = told.atHand.worth;
        told.atHand.begin(told.settings[HOME]);
        return before;
    }

    public int order(int n, long places) {
        if (n < 0) {
            return refuse(BELOW);
        }
        if (n > MOST_PLACES) {
            return refuse(ROOM);
        }
        if (places < 0 || !areDigitsPlaces(n, places)) {
            return refuse(NOBODY);
        }
        int before = told.ordered;
        long left = places;
        for (int i = 0; i < n; i++) {
            told.order[i] = (int) (left % 10);
            left /= 10;
        }
        told.ordered = n;
        return before;
    }

    public int lived(int kind, int what) {
        if (kind < 0 || kind > 3 || what < 0 || what > 1) {
            return refuse(OTHER);
        }
        Life mind = lives.live(told, kind);
        return what == 0 ? mind.worth : mind.age;
    }

    public int best(int i) {
        if (i < -1) {
            return refuse(BELOW);
        }
        lives.seekBest(told);
        if (i == -1) {
            return lives.bestWorth;
        }
        return i < lives.bestLength ? lives.bestRow[i] : NONE;
    }

    public int house() {
        return lives.seekHouse(told);
    }

    public int call(int place, int weight, int pay) {
        if (!told.isPlace(place)) {
            return refuse(NOBODY);
        }
        if (weight < 0 || pay < 0) {
            return refuse(BELOW);
        }
        if (weight > 9 || pay > 99) {
            return refuse(ROOM);
        }
        int before = told.weights[place];
        told.weights[place] = weight;
        told.pays[place] = pay;
        return before;
    }

    public long calls(int miles, int n, int part) {
        if (part < 0 || part > 1) {
            return refuseLong(OTHER);
        }
        if (miles < 0 || n < 0) {
            return refuseLong(BELOW);
        }
        if (miles > MOST_MILES || n > MOST_CALLS) {
            return refuseLong(ROOM);
        }
        long below = fillMeans(miles / 2, n);
        if (below == 0) {
            return part;
        }
        long above = means[miles / 2];
        long common = commonDivisor(above, below);
        return (part == 0 ? above : below) / common;
    }

    public int goes(int miles, int n, int place) {
        if (!told.isPlace(place)) {
            return refuse(NOBODY);
        }
        if (miles < 0 || n < 1) {
            return refuse(BELOW);
        }
        if (miles > MOST_MILES || n > MOST_CALLS) {
            return refuse(ROOM);
        }
        int half = miles / 2;
        int there = told.miles(told.settings[HOME], place);
        if (there > half) {
            return 0;
        }
        long scale = fillMeans(half, n - 1);
        return told.pays[place] * scale + means[half - there] >= means[half] ? 1 : 0;
    }

    public int together(int a, int b) {
        if (a < 0 || b < 0) {
            return refuse(BELOW);
        }
        if (a > MOST_MILES || b > MOST_MILES) {
            return refuse(ROOM);
        }
        int age = Math.max(a, b);
        int at = told.settings[HOME];
        int reached = 0;
        for (int i = 0; i < told.ordered; i++) {
            int miles = told.miles(at, told.order[i]);
            if (miles < NO_WAY) {
                age += miles;
                at = told.order[i];
                reached += age <= told.settings[END] ? 1 : 0;
            }
        }
        return reached;
    }

    public int child(int a, int b, int m) {
        if (a < 0 || b < 0 || m < 0) {
            return refuse(BELOW);
        }
        if (a > MOST_MILES || b > MOST_MILES || m > MOST_MILES) {
            return refuse(ROOM);
        }
        int left = a + b - m;
        return left < 0 ? NONE : Math.min(Math.min(a, b), left / 2);
    }

    public int person(int place, int gone) {
        if (!told.isPlace(place)) {
            return refuse(NOBODY);
        }
        if (gone < 0) {
            return refuse(BELOW);
        }
        if (gone > MOST_MILES || told.people >= MOST_PEOPLE) {
            return refuse(ROOM);
        }
        told.livesAt[told.people] = place;
        told.gone[told.people] = gone;
        told.people++;
        return told.people;
    }

    public int send(int place, int what) {
        if (!told.isPlace(place)) {
            return refuse(NOBODY);
        }
        if (what < 0 || what > 1) {
            return refuse(OTHER);
        }
        int who = NONE;
        int least = NONE;
        for (int i = 0; i < told.people; i++) {
            int cost = costOfSending(i, place);
            if (cost >= 0 && (who < 0 || cost < least)) {
                who = i;
                least = cost;
            }
        }
        return what == 0 ? who : least;
    }

    public int wells(int k) {
        if (k < 1) {
            return refuse(BELOW);
        }
        if (k > 3 || k > told.places) {
            return refuse(ROOM);
        }
        int chosen = 0;
        int least = 0;
        for (int bits = 1; bits < 1 << told.places; bits++) {
            if (Integer.bitCount(bits) == k) {
                int sum = sumToWells(bits);
                if (chosen == 0 || sum < least) {
                    chosen = bits;
                    least = sum;
                }
            }
        }
        return chosen;
    }

    public long many(int n, int b, int s, int t) {
        if (n < 0 || b < 0 || s < 1 || t < 0) {
            return refuseLong(BELOW);
        }
        if (n > MOST_MILES || b > 9 || s > 9 || t > MOST_STEPS) {
            return refuseLong(ROOM);
        }
        steps[0] = n;
        for (int i = 1; i <= t; i++) {
            steps[i] = steps[i - 1] + (i >= s ? b * steps[i - s] : 0);
        }
        return steps[t];
    }

    public int stray(int n, int z) {
        if (n < 1) {
            return refuse(BELOW);
        }
        if (n > 40) {
            return refuse(ROOM);
        }
        return lives.strayWorth(told, n, z);
    }

    public int row(int v) {
        if (v < 0) {
            return refuse(BELOW);
        }
        if (v > 9 || walked >= ROW_BYTES) {
            return refuse(ROOM);
        }
        walk[walked] = v;
        walked++;
        return walked;
    }

    public int judge(int what) {
        if (what < 0 || what > 1) {
            return refuse(OTHER);
        }
        int answer = what == 0 ? lives.firstWrong(told, walk, walked) : lives.firstOld(told, walk, walked);
        walked = 0;
        return answer;
    }

    public int image() {
        pictured.copyFrom(told);
        isPictured = true;
        return told.places;
    }

    public int on() {
        if (!isPictured) {
            return refuse(STATE);
        }
        told.copyFrom(pictured);
        return told.places;
    }

    public int count(int what) {
        switch (what) {
            case 0:
                return told.places;
            case 1:
                return told.wayCount;
            case 2:
                return told.thingCount;
            case 3:
                return told.people;
            case 4:
                return told.ordered;
            case 5:
                return told.allWeights();
            case 6:
                return walked;
            case 7:
                return taped;
            case 8:
                return told.atHand.timesHad();
            default:
                return what >= 11 && what <= 16 ? refusals[what - 10] : NONE;
        }
    }

    private int refuse(int refusal) {
        refusals[-refusal]++;
        return refusal;
    }

    private long refuseLong(int refusal) {
        return LONG_REFUSALS - refuse(refusal);
    }

    private boolean areDigitsPlaces(int n, long digits) {
        long left = digits;
        for (int i = 0; i < n; i++) {
            if (!told.isPlace((int) (left % 10))) {
                return false;
            }
            left /= 10;
        }
        return true;
    }

    /**
     * Fills means up to half with the greatest sums of PAYS by n CALLS, each times the scale that is answered
     * (all WEIGHTS to the n-th, 0 for CALLS without WEIGHTS), so that no fraction is ever needed.
     */
    private long fillMeans(int half, int n) {
        Arrays.fill(means, 0);
        int weights = told.allWeights();
        long scale = 1;
        for (int i = 0; i < n; i++) {
            // Downward, since one CALL more looks only at what fewer miles gave with one CALL less.
            for (int h = half; h >= 0; h--) {
                means[h] = oneCallMore(h, scale);
            }
            scale *= weights;
        }
        return scale;
    }

    private long oneCallMore(int half, long scale) {
        long sum = 0;
        for (int place = 0; place < told.places; place++) {
            int there = told.miles(told.settings[HOME], place);
            long pay = means[half];
            if (there <= half) {
                pay = Math.max(pay, told.pays[place] * scale + means[half - there]);
            }
            sum += told.weights[place] * pay;
        }
        return sum;
    }

    private static long commonDivisor(long a, long b) {
        long greater = a;
        long less = b;
        for (int i = 0; i < 200 && less != 0; i++) {
            long rest = greater % less;
            greater = less;
            less = rest;
        }
        return greater > 0 ? greater : 1;
    }

    private int costOfSending(int who, int place) {
        int miles = 2 * told.miles(told.livesAt[who], place);
        int gone = told.gone[who];
        if (gone + miles > told.settings[END]) {
            return NONE;
        }
        if (gone < told.settings[GROWN]) {
            return 4 * miles;
        }
        return gone < told.settings[OLD] ? 3 * miles : miles;
    }

    private int sumToWells(int bits) {
        int sum = 0;
        for (int place = 0; place < told.places; place++) {
            int nearest = NO_WAY;
            for (int well = 0; well < told.places; well++) {
                if ((bits >> well & 1) == 1) {
                    nearest = Math.min(nearest, told.miles(place, well));
                }
            }
            sum += nearest < NO_WAY ? nearest : NO_WELL;
        }
        return sum;
    }

    /** All that THE IMAGE holds: what is told and the LIFE at hand. */
    private static final class Told {
        int places = 4;
        int wayCount = 0;
        final int[] ways = new int[MOST_PLACES * MOST_PLACES];
        final int[] fars = new int[MOST_PLACES * MOST_PLACES];
        int thingCount = 0;
        final Thing[] things = new Thing[MOST_THINGS];
        final int[] settings = {100, 300, 400, 0};
        int ordered = 0;
        final int[] order = new int[MOST_PLACES];
        final int[] weights = new int[MOST_PLACES];
        final int[] pays = new int[MOST_PLACES];
        int people = 0;
        final int[] livesAt = new int[MOST_PEOPLE];
        final int[] gone = new int[MOST_PEOPLE];
        final Life atHand = new Life();

        Told() {
            // A THING that nobody asks for stands where there is none yet, so that no place of the row is null.
            Thing nothing = new Once(0, 0, 0, 0, 0);
            for (int i = 0; i < MOST_THINGS; i++) {
                things[i] = nothing;
            }
            reckonFar();
        }

        void copyFrom(Told other) {
            places = other.places;
            wayCount = other.wayCount;
            copyRow(other.ways, ways);
            copyRow(other.fars, fars);
            thingCount = other.thingCount;
            for (int i = 0; i < MOST_THINGS; i++) {
                things[i] = other.things[i];
            }
            copyRow(other.settings, settings);
            ordered = other.ordered;
            copyRow(other.order, order);
            copyRow(other.weights, weights);
            copyRow(other.pays, pays);
            people = other.people;
            copyRow(other.livesAt, livesAt);
            copyRow(other.gone, gone);
            atHand.copyFrom(other.atHand);
        }

        boolean isPlace(int place) {
            return place >= 0 && place < places;
        }

        boolean isThing(int number) {
            return number >= 0 && number < thingCount;
        }

        int miles(int from, int to) {
            return fars[from * MOST_PLACES + to];
        }

        int allWeights() {
            int sum = 0;
            for (int place = 0; place < places; place++) {
                sum += weights[place];
            }
            return sum;
        }

        boolean tellPlaces(int n) {
            if (n < 2 || n > MOST_PLACES || n < placesNeeded()) {
                return false;
            }
            places = n;
            return true;
        }

        boolean tellWay(int a, int b, int miles) {
            if (!isPlace(a) || !isPlace(b) || a == b || miles < 1 || miles > MOST_WAY_MILES) {
                return false;
            }
            if (ways[a * MOST_PLACES + b] > 0 || wayCount >= MOST_WAYS) {
                return false;
            }
            ways[a * MOST_PLACES + b] = miles;
            ways[b * MOST_PLACES + a] = miles;
            wayCount++;
            return true;
        }

        boolean tellThing(int kind, int place, int worth, int ask) {
            if (!isPlace(place) || thingCount >= MOST_THINGS) {
                return false;
            }
            char letter = KIND_LETTERS.charAt(kind);
            if (letter == 'b' && !isThing(ask)) {
                return false;
            }
            switch (letter) {
                case 'a':
                    things[thingCount] = new Again(kind, thingCount, place, worth, ask);
                    break;
                case 'b':
                    things[thingCount] = new Behind(kind, thingCount, place, worth, ask);
                    break;
                case 'y':
                    things[thingCount] = new Young(kind, thingCount, place, worth, ask);
                    break;
                case 'g':
                    things[thingCount] = new GrownOne(kind, thingCount, place, worth, ask);
                    break;
                case 'l':
                    things[thingCount] = new Late(kind, thingCount, place, worth, ask);
                    break;
                default:
                    things[thingCount] = new Once(kind, thingCount, place, worth, ask);
                    break;
            }
            thingCount++;
            return true;
        }

        void reckonFar() {
            for (int i = 0; i < MOST_PLACES * MOST_PLACES; i++) {
                fars[i] = ways[i] > 0 ? ways[i] : NO_WAY;
            }
            for (int place = 0; place < MOST_PLACES; place++) {
                fars[place * MOST_PLACES + place] = 0;
            }
            for (int by = 0; by < MOST_PLACES; by++) {
                for (int from = 0; from < MOST_PLACES; from++) {
                    for (int to = 0; to < MOST_PLACES; to++) {
                        int miles = miles(from, by) + miles(by, to);
                        if (miles < miles(from, to)) {
                            fars[from * MOST_PLACES + to] = miles;
                        }
                    }
                }
            }
        }

        private int placesNeeded() {
            int greatest = Math.max(settings[HOME], atHand.at);
            for (int place = 0; place < places; place++) {
                if (weights[place] > 0 || hasWay(place)) {
                    greatest = Math.max(greatest, place);
                }
            }
            for (int i = 0; i < thingCount; i++) {
                greatest = Math.max(greatest, things[i].place);
            }
            for (int i = 0; i < people; i++) {
                greatest = Math.max(greatest, livesAt[i]);
            }
            for (int i = 0; i < ordered; i++) {
                greatest = Math.max(greatest, order[i]);
            }
            return greatest + 1;
        }

        private boolean hasWay(int place) {
            for (int other = 0; other < MOST_PLACES; other++) {
                if (ways[place * MOST_PLACES + other] > 0) {
                    return true;
                }
            }
            return false;
        }

        private static void copyRow(int[] from, int[] to) {
            System.arraycopy(from, 0, to, 0, Math.min(from.length, to.length));
        }
    }

    /** A LIFE: where it is, how many miles it has gone, what it had how often, and what all that was worth. */
    private static final class Life {
        int at = 0;
        int age = 0;
        int worth = 0;
        final int[] had = new int[MOST_THINGS];

        void begin(int home) {
            at = home;
            age = 0;
            worth = 0;
            Arrays.fill(had, 0);
        }

        void copyFrom(Life other) {
            at = other.at;
            age = other.age;
            worth = other.worth;
            System.arraycopy(other.had, 0, had, 0, MOST_THINGS);
        }

        boolean canCome(Told told, int place) {
            return age + told.miles(at, place) <= told.settings[END];
        }

        void come(Told told, int place) {
            age += told.miles(at, place);
            at = place;
        }

        boolean mayTake(Told told, int number) {
            Thing thing = told.things[number];
            return thing.place == at && thing.isOpen(had);
        }

        int take(Told told, int number) {
            int gain = told.things[number].worthThen(age, had[number], told.settings);
            had[number]++;
            worth += gain;
            return gain;
        }

        int timesHad() {
            int sum = 0;
            for (int i = 0; i < MOST_THINGS; i++) {
                sum += had[i];
            }
            return sum;
        }
    }

    /** What is common to all KINDS of THINGS. */
    private abstract static class Thing {
        final int kind;
        final int number;
        final int place;
        final int worth;
        final int ask;

        Thing(int kind, int number, int place, int worth, int ask) {
            this.kind = kind;
            this.number = number;
            this.place = place;
            this.worth = worth;
            this.ask = ask;
        }

        /** The WORTH of having it at an AGE for the n-th time, as if what it asks for was had. */
        abstract int worthThen(int age, int n, int[] settings);

        /** Whether it MAY be had by one who is at its PLACE. */
        abstract boolean isOpen(int[] had);
    }

    private static class Once extends Thing {
        Once(int kind, int number, int place, int worth, int ask) {
            super(kind, number, place, worth, ask);
        }

        int worthThen(int age, int n, int[] settings) {
            return n == 0 ? worth : 0;
        }

        boolean isOpen(int[] had) {
            return had[number] == 0;
        }
    }

    private static final class Again extends Thing {
        Again(int kind, int number, int place, int worth, int ask) {
            super(kind, number, place, worth, ask);
        }

        int worthThen(int age, int n, int[] settings) {
            return n < 31 ? worth >> n : 0;
        }

        boolean isOpen(int[] had) {
            return worth >> Math.min(had[number], 30) > 0;
        }
    }

    private static final class Behind extends Once {
        Behind(int kind, int number, int place, int worth, int ask) {
            super(kind, number, place, worth, ask);
        }

        boolean isOpen(int[] had) {
            return super.isOpen(had) && had[ask] > 0;
        }
    }

    private static final class Young extends Once {
        Young(int kind, int number, int place, int worth, int ask) {
            super(kind, number, place, worth, ask);
        }

        int worthThen(int age, int n, int[] settings) {
            int whole = super.worthThen(age, n, settings);
            return age <= ask ? whole : whole / 2;
        }
    }

    private static class GrownOne extends Once {
        GrownOne(int kind, int number, int place, int worth, int ask) {
            super(kind, number, place, worth, ask);
        }

        int worthThen(int age, int n, int[] settings) {
            return age >= settings[GROWN] ? super.worthThen(age, n, settings) : 0;
        }
    }

    private static final class Late extends GrownOne {
        Late(int kind, int number, int place, int worth, int ask) {
            super(kind, number, place, worth, ask);
        }

        int worthThen(int age, int n, int[] settings) {
            int grown = super.worthThen(age, n, settings);
            return grown > 0 ? grown + Math.max(0, age - settings[OLD]) / 50 : 0;
        }
    }

    /** Reads the TEXT of a LAND, one STATEMENT after the other, into a draft. */
    private static final class Reader {
        private static final int BYTE_FAULT = -1000;
        private static final int STATEMENT_FAULT = -2000;
        private static final int LEAST_STATEMENT = 3;

        private int[] text = new int[0];
        private int length = 0;
        private int next = 0;
        private int faultAt = -1;
        private int kind = 0;
        private int first = 0;
        private int second = 0;
        private int third = 0;

        int read(int[] tape, int taped, Told draft) {
            text = tape;
            length = Math.min(taped, tape.length);
            next = 0;
            faultAt = -1;
            int wrong = -1;
            int statements = 0;
            // A STATEMENT that is not as it must be still lets a wrong byte behind it come first.
            for (int i = 0; i <= TAPE_BYTES / LEAST_STATEMENT && (i == 0 || next < length); i++) {
                int start = next;
                int letter = readStatement();
                if (faultAt >= 0) {
                    return BYTE_FAULT - faultAt;
                }
                boolean right;
                if (letter == 't') {
                    right = draft.tellThing(kind, first, second, third);
                } else if (letter == 'w') {
                    right = draft.tellWay(first, second, third);
                } else {
                    right = draft.tellPlaces(first);
                }
                if (wrong < 0 && !right) {
                    wrong = start;
                }
                statements++;
            }
            return wrong < 0 ? statements : STATEMENT_FAULT - wrong;
        }

        private int readStatement() {
            int letter = next < length ? text[next] : 0;
            switch (letter) {
                case 'n':
                    next++;
                    first = readDigit();
                    break;
                case 'w':
                    next++;
                    first = readDigit();
                    second = readDigit();
                    readSign(',');
                    third = readNumber(3);
                    break;
                case 't':
                    next++;
                    kind = readKind();
                    first = readDigit();
                    second = readNumber(2);
                    readSign(',');
                    third = readNumber(3);
                    break;
                default:
                    fail();
                    break;
            }
            readSign(';');
            return letter;
        }

        private void readSign(char sign) {
            if (faultAt < 0 && next < length && text[next] == sign) {
                next++;
            } else {
                fail();
            }
        }

        private int readKind() {
            int found = next < length ? KIND_LETTERS.indexOf((char) text[next]) : -1;
            if (found < 0) {
                fail();
                return 0;
            }
            next++;
            return found;
        }

        private int readNumber(int most) {
            int number = readDigit();
            for (int i = 1; i < most && isDigitNext(); i++) {
                number = number * 10 + readDigit();
            }
            return number;
        }

        private int readDigit() {
            if (!isDigitNext()) {
                fail();
                return 0;
            }
            next++;
            return text[next - 1] - '0';
        }

        private boolean isDigitNext() {
            return faultAt < 0 && next < length && text[next] >= '0' && text[next] <= '9';
        }

        private void fail() {
            if (faultAt < 0) {
                faultAt = next;
            }
        }
    }

    /** LIVES that are only thought of: the LIFE at hand never changes by them. */
    private static final class Lives {
        private static final int NEAR = 0;
        private static final int FAR = 1;
        private static final int ROUND = 2;

        private final Life mind = new Life();
        private final int[] row = new int[MOST_THINGS];
        final int[] bestRow = new int[MOST_THINGS];
        int bestLength = 0;
        int bestWorth = 0;

        Life live(Told told, int kind) {
            mind.begin(told.settings[HOME]);
            takeWorthy(told);
            if (kind == NEAR || kind == FAR) {
                seekThings(told, kind);
            } else if (kind == ROUND) {
                walkOrder(told);
            }
            return mind;
        }

        private void seekThings(Told told, int kind) {
            int place = nextPlace(told, kind);
            // Each going is a mile or more, so no LIFE goes oftener than the greatest END.
            for (int i = 0; i < MOST_MILES && place >= 0; i++) {
                mind.come(told, place);
                takeWorthy(told);
                place = nextPlace(told, kind);
            }
        }

        private int nextPlace(Told told, int kind) {
            int chosen = -1;
            int chosenMiles = 0;
            for (int place = 0; place < told.places; place++) {
                int miles = told.miles(mind.at, place);
                if (place != mind.at && mind.canCome(told, place) && isWorthGoing(told, place, mind.age + miles)) {
                    boolean better = kind == NEAR ? miles < chosenMiles : miles > chosenMiles;
                    if (chosen < 0 || better) {
                        chosen = place;
                        chosenMiles = miles;
                    }
                }
            }
            return chosen;
        }

        private boolean isWorthGoing(Told told, int place, int then) {
            for (int i = 0; i < told.thingCount; i++) {
                Thing thing = told.things[i];
                if (thing.place == place && thing.isOpen(mind.had)
                    && thing.worthThen(then, mind.had[i], told.settings) > 0) {
                    return true;
                }
            }
            return false;
        }

        private void walkOrder(Told told) {
            for (int i = 0; i < told.ordered; i++) {
                if (mind.canCome(told, told.order[i])) {
                    mind.come(told, told.order[i]);
                    takeWorthy(told);
                }
            }
        }

        private void takeWorthy(Told told) {
            for (int i = 0; i < told.thingCount; i++) {
                int gain = told.things[i].worthThen(mind.age, mind.had[i], told.settings);
                if (gain > 0 && mind.mayTake(told, i)) {
                    mind.take(told, i);
                }
            }
        }

        private void takeOpen(Told told) {
            for (int i = 0; i < told.thingCount; i++) {
                if (mind.mayTake(told, i)) {
                    mind.take(told, i);
                }
            }
        }

        void seekBest(Told told) {
            bestLength = 0;
            bestWorth = 0;
            mind.begin(told.settings[HOME]);
            seekOn(told, 0);
        }

        int seekHouse(Told told) {
            bestWorth = 0;
            int house = 0;
            for (int place = 0; place < told.places; place++) {
                int before = bestWorth;
                mind.begin(place);
                seekOn(told, 0);
                if (bestWorth > before) {
                    house = place;
                }
            }
            return house;
        }

        /** Goes through the rows that go on from the one in mind, for one that is worth more than bestWorth. */
        private void seekOn(Told told, int length) {
            if (mind.worth > bestWorth) {
                bestWorth = mind.worth;
                bestLength = length;
                System.arraycopy(row, 0, bestRow, 0, length);
            }
            // Rows come by numbers and only a greater WORTH counts: what can't be greater is left.
            if (length >= MOST_THINGS || mind.worth + mostToCome(told) <= bestWorth) {
                return;
            }
            for (int i = 0; i < told.thingCount; i++) {
                if (mind.had[i] == 0 && mind.canCome(told, told.things[i].place)) {
                    seekWith(told, i, length);
                }
            }
        }

        private void seekWith(Told told, int number, int length) {
            int at = mind.at;
            int age = mind.age;
            int worth = mind.worth;
            mind.come(told, told.things[number].place);
            if (mind.mayTake(told, number)) {
                mind.take(told, number);
                row[length] = number;
                seekOn(told, length + 1);
                mind.had[number] = 0;
            }
            mind.at = at;
            mind.age = age;
            mind.worth = worth;
        }

        /**
         * More than this no row can add: by AGE each KIND's WORTH only grows or only falls, so that it is greatest
         * when the THING is come to at once or at END.
         */
        private int mostToCome(Told told) {
            int latest = told.settings[END];
            int sum = 0;
            for (int i = 0; i < told.thingCount; i++) {
                Thing thing = told.things[i];
                int soonest = mind.age + told.miles(mind.at, thing.place);
                if (mind.had[i] == 0 && soonest <= latest) {
                    int soon = thing.worthThen(soonest, 0, told.settings);
                    sum += Math.max(soon, thing.worthThen(latest, 0, told.settings));
                }
            }
            return sum;
        }

        int strayWorth(Told told, int n, int seed) {
            mind.begin(told.settings[HOME]);
            takeOpen(told);
            int z = seed;
            for (int i = 0; i < n; i++) {
                z = z * 1664525 + 1013904223;
                int place = (z & 0x7fffffff) / 256 % Math.max(1, told.places);
                if (mind.canCome(told, place)) {
                    mind.come(told, place);
                }
                takeOpen(told);
            }
            return mind.worth;
        }

        int firstWrong(Told told, int[] walk, int walked) {
            mind.begin(told.settings[HOME]);
            for (int i = 0; i < walked; i++) {
                if (!told.isPlace(walk[i]) || !mind.canCome(told, walk[i])) {
                    return i;
                }
                mind.come(told, walk[i]);
            }
            return NONE;
        }

        int firstOld(Told told, int[] walk, int walked) {
            int wrong = firstWrong(told, walk, walked);
            int right = wrong < 0 ? walked : wrong;
            mind.begin(told.settings[HOME]);
            for (int i = 0; i < right; i++) {
                mind.come(told, walk[i]);
                if (mind.age >= told.settings[OLD]) {
                    return i;
                }
            }
            return NONE;
        }
    }
}

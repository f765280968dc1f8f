import java.math.BigInteger;
import java.util.ArrayList;
import java.util.Arrays;
import java.util.Collections;
import java.util.List;
import java.util.Random;
import java.util.regex.Matcher;
import java.util.regex.Pattern;

// Runs of calls by fixed seeds, each answer held against a second telling of the document, made by other means:
// patterns for the text, fractions for the means, every row and every set looked at.
public final class ModelTest {
    private static final int RUNS = 400;
    private static final int CALLS = 512;

    public static void main(String[] args) {
        int wrong = 0;
        long looked = 0;
        for (int run = 0; run < RUNS && wrong < 10; run++) {
            Random random = new Random(run);
            AgesByMiles x = new AgesByMiles();
            Model m = new Model();
            List<String> said = new ArrayList<>();
            List<String> waiting = new ArrayList<>();
            for (int i = 0; i < CALLS; i++) {
                long[] answers = new long[2];
                String call = step(random, x, m, answers, waiting);
                said.add(call + " " + answers[0]);
                looked++;
                if (answers[0] != answers[1]) {
                    wrong++;
                    System.out.println("run " + run + ": " + call + " answered " + answers[0] + ", due is " + answers[1]
                        + ", behind " + said.subList(Math.max(0, i - 30), i));
                    break;
                }
            }
        }
        System.out.println(looked + " answers looked at, " + wrong + " not as due");
        if (wrong != 0) {
            System.exit(1);
        }
    }

    /** A number that is mostly within least .. most, and now and then just or far outside. */
    private static int some(Random random, int least, int most) {
        int luck = random.nextInt(40);
        if (luck == 0) {
            return least - 1;
        }
        if (luck == 1) {
            return most + 1;
        }
        if (luck == 2) {
            return random.nextInt();
        }
        if (luck < 6) {
            return random.nextBoolean() ? least : most;
        }
        return least + random.nextInt(most - least + 1);
    }

    private static String statement(Random random, Model m) {
        int luck = random.nextInt(20);
        if (luck == 0) {
            return "n" + random.nextInt(10) + ";";
        }
        if (luck < 3) {
            return "n" + (2 + random.nextInt(7)) + ";";
        }
        int n = random.nextInt(12) == 0 ? 10 : m.places;
        if (luck < 12) {
            return "w" + random.nextInt(n) + random.nextInt(n) + "," + random.nextInt(random.nextInt(9) == 0 ? 220 : 90)
                + ";";
        }
        return "t" + "oabygl".charAt(random.nextInt(6)) + random.nextInt(n) + random.nextInt(random.nextBoolean() ? 100 : 9)
            + "," + (random.nextBoolean() ? random.nextInt(4) : random.nextInt(400)) + ";";
    }

    private static String text(Random random, Model m) {
        StringBuilder text = new StringBuilder();
        int statements = random.nextInt(8);
        for (int i = 0; i < statements; i++) {
            text.append(statement(random, m));
        }
        if (random.nextInt(6) == 0 && text.length() > 0) {
            text.setCharAt(random.nextInt(text.length()), "nwtoabygl0123456789,;x\u00ff\0".charAt(random.nextInt(24)));
        }
        if (random.nextInt(12) == 0) {
            text.setLength(random.nextInt(text.length() + 1));
        }
        if (text.length() > 64) {
            text.setLength(64);
        }
        return text.toString();
    }

    private static String feed(Random random, AgesByMiles x, Model m, long[] a, List<String> waiting) {
        String all = waiting.remove(0);
        int n = Math.min(all.length(), 1 + random.nextInt(8));
        if (random.nextInt(4) > 0) {
            n = Math.min(all.length(), 8);
        }
        long bytes = n < 8 ? random.nextLong() << (8 * n) : 0;
        for (int i = 0; i < n; i++) {
            bytes |= (long) all.charAt(i) << (8 * i);
        }
        if (n < all.length()) {
            waiting.add(0, all.substring(n));
        } else {
            waiting.add("");
        }
        a[0] = x.feed(n, bytes);
        a[1] = m.feed(n, bytes);
        return "feed(" + n + ", " + bytes + ")";
    }

    private static String step(Random random, AgesByMiles x, Model m, long[] a, List<String> waiting) {
        if (!waiting.isEmpty()) {
            if (!waiting.get(0).isEmpty()) {
                return feed(random, x, m, a, waiting);
            }
            waiting.remove(0);
            a[0] = x.land();
            a[1] = m.land();
            return "land()";
        }
        int place = some(random, 0, m.places - 1);
        int thing = some(random, 0, Math.max(0, m.things.size() - 1));
        switch (random.nextInt(36)) {
            case 0:
            case 1:
                String text = text(random, m);
                waiting.add(text);
                if (text.isEmpty()) {
                    return step(random, x, m, a, waiting);
                }
                return feed(random, x, m, a, waiting);
            case 2: {
                int to = some(random, 0, m.places - 1);
                a[0] = x.far(place, to);
                a[1] = m.far(place, to);
                return "far(" + place + ", " + to + ")";
            }
            case 3: {
                int what = some(random, 0, 4);
                a[0] = x.thing(thing, what);
                a[1] = m.thing(thing, what);
                return "thing(" + thing + ", " + what + ")";
            }
            case 4: {
                int what = some(random, 0, 3);
                int v = what == 3 ? place : some(random, what == 2 ? 1 : 0, random.nextBoolean() ? 999 : 300);
                a[0] = x.set(what, v);
                a[1] = m.set(what, v);
                return "set(" + what + ", " + v + ")";
            }
            case 5:
            case 6:
            case 7:
                a[0] = x.go(place);
                a[1] = m.go(place);
                return "go(" + place + ")";
            case 8:
            case 9:
            case 10:
                a[0] = x.have(thing);
                a[1] = m.have(thing);
                return "have(" + thing + ")";
            case 11: {
                int age = some(random, 0, 999);
                int n = random.nextInt(3) == 0 ? some(random, 0, 20) : 0;
                a[0] = x.worthAt(thing, age, n);
                a[1] = m.worthAt(thing, age, n);
                return "worthAt(" + thing + ", " + age + ", " + n + ")";
            }
            case 12:
                a[0] = x.may(thing);
                a[1] = m.may(thing);
                return "may(" + thing + ")";
            case 13: {
                int what = some(random, 0, 4);
                a[0] = x.life(what);
                a[1] = m.life(what);
                return "life(" + what + ")";
            }
            case 14:
                if (random.nextInt(3) > 0) {
                    a[0] = x.count(8);
                    a[1] = m.count(8);
                    return "count(8)";
                }
                a[0] = x.nextLife();
                a[1] = m.nextLife();
                return "nextLife()";
            case 15: {
                int n = some(random, 0, 8);
                long places = random.nextInt(20) == 0 ? random.nextLong() : 0;
                if (places == 0) {
                    for (int i = 0; i < 8; i++) {
                        places = places * 10 + random.nextInt(random.nextInt(90) == 0 ? 10 : m.places);
                    }
                }
                a[0] = x.order(n, places);
                a[1] = m.order(n, places);
                return "order(" + n + ", " + places + ")";
            }
            case 16:
            case 17:
            case 18: {
                int kind = some(random, 0, 3);
                int what = some(random, 0, 1);
                a[0] = x.lived(kind, what);
                a[1] = m.lived(kind, what);
                return "lived(" + kind + ", " + what + ")";
            }
            case 19:
            case 20: {
                int i = some(random, -1, 7);
                a[0] = x.best(i);
                a[1] = m.best(i);
                return "best(" + i + ")";
            }
            case 21:
                if (random.nextInt(4) > 0) {
                    return step(random, x, m, a, waiting);
                }
                a[0] = x.house();
                a[1] = m.house();
                return "house()";
            case 22: {
                int weight = some(random, 0, 9);
                int pay = some(random, 0, 99);
                a[0] = x.call(place, weight, pay);
                a[1] = m.call(place, weight, pay);
                return "call(" + place + ", " + weight + ", " + pay + ")";
            }
            case 23: {
                int miles = some(random, 0, random.nextBoolean() ? 999 : 200);
                int n = random.nextInt(3) > 0 ? some(random, 0, 3) : some(random, 0, 6);
                int part = some(random, 0, 1);
                a[0] = x.calls(miles, n, part);
                a[1] = m.calls(miles, n, part);
                return "calls(" + miles + ", " + n + ", " + part + ")";
            }
            case 24: {
                int miles = some(random, 0, random.nextBoolean() ? 999 : 200);
                int n = random.nextInt(3) > 0 ? some(random, 1, 3) : some(random, 1, 6);
                a[0] = x.goes(miles, n, place);
                a[1] = m.goes(miles, n, place);
                return "goes(" + miles + ", " + n + ", " + place + ")";
            }
            case 25: {
                int p = some(random, 0, 999);
                int q = some(random, 0, 300);
                a[0] = x.together(p, q);
                a[1] = m.together(p, q);
                return "together(" + p + ", " + q + ")";
            }
            case 26: {
                int p = some(random, 0, 999);
                int q = some(random, 0, 999);
                int r = some(random, 0, 999);
                a[0] = x.child(p, q, r);
                a[1] = m.child(p, q, r);
                return "child(" + p + ", " + q + ", " + r + ")";
            }
            case 27: {
                int gone = some(random, 0, 999);
                if (random.nextInt(8) > 0) {
                    gone = some(random, 0, 400);
                }
                a[0] = x.person(place, gone);
                a[1] = m.person(place, gone);
                return "person(" + place + ", " + gone + ")";
            }
            case 28: {
                int what = some(random, 0, 1);
                a[0] = x.send(place, what);
                a[1] = m.send(place, what);
                return "send(" + place + ", " + what + ")";
            }
            case 29: {
                int k = some(random, 1, 3);
                a[0] = x.wells(k);
                a[1] = m.wells(k);
                return "wells(" + k + ")";
            }
            case 30: {
                int n = some(random, 0, 999);
                int b = some(random, 0, 9);
                int s = some(random, 1, 9);
                int t = some(random, 0, 15);
                a[0] = x.many(n, b, s, t);
                a[1] = m.many(n, b, s, t);
                return "many(" + n + ", " + b + ", " + s + ", " + t + ")";
            }
            case 31: {
                int n = some(random, 1, 40);
                int z = random.nextInt();
                a[0] = x.stray(n, z);
                a[1] = m.stray(n, z);
                return "stray(" + n + ", " + z + ")";
            }
            case 32:
            case 33: {
                int v = random.nextInt(20) == 0 ? some(random, 0, 9) : place;
                a[0] = x.row(v);
                a[1] = m.row(v);
                return "row(" + v + ")";
            }
            case 34: {
                if (random.nextInt(3) == 0) {
                    int what = some(random, 0, 1);
                    a[0] = x.judge(what);
                    a[1] = m.judge(what);
                    return "judge(" + what + ")";
                }
                int what = some(random, 0, 17);
                a[0] = x.count(what);
                a[1] = m.count(what);
                return "count(" + what + ")";
            }
            default:
                if (random.nextInt(3) > 0) {
                    return step(random, x, m, a, waiting);
                }
                if (random.nextBoolean()) {
                    a[0] = x.image();
                    a[1] = m.image();
                    return "image()";
                }
                a[0] = x.on();
                a[1] = m.on();
                return "on()";
        }
    }

    private static final class Thing {
        char kind;
        int place;
        int worth;
        int ask;
    }

    private static final class Way {
        int a;
        int b;
        int miles;
    }

    private static final class Being {
        int at;
        int age;
        int worth;
        int[] had = new int[8];

        Being copy() {
            Being other = new Being();
            other.at = at;
            other.age = age;
            other.worth = worth;
            other.had = had.clone();
            return other;
        }
    }

    /** The second telling. */
    private static final class Model {
        private static final Pattern LAND =
            Pattern.compile("(?:n[0-9];|w[0-9]{2},[0-9]{1,3};|t[oabygl][0-9][0-9]{1,2},[0-9]{1,3};)+");
        private static final Pattern STATEMENT =
            Pattern.compile("n([0-9]);|w([0-9])([0-9]),([0-9]+);|t(.)([0-9])([0-9]+),([0-9]+);");

        int places = 4;
        List<Way> ways = new ArrayList<>();
        List<Thing> things = new ArrayList<>();
        int grown = 100;
        int old = 300;
        int end = 400;
        int home = 0;
        List<Integer> order = new ArrayList<>();
        int[] weights = new int[8];
        int[] pays = new int[8];
        List<int[]> people = new ArrayList<>();
        Being life = new Being();

        private StringBuilder tape = new StringBuilder();
        private List<Integer> row = new ArrayList<>();
        private int[] refused = new int[10];
        private Model pictured = null;

        private Model copy() {
            Model other = new Model();
            other.become(this);
            return other;
        }

        private void become(Model other) {
            places = other.places;
            ways = new ArrayList<>(other.ways);
            things = new ArrayList<>(other.things);
            grown = other.grown;
            old = other.old;
            end = other.end;
            home = other.home;
            order = new ArrayList<>(other.order);
            weights = other.weights.clone();
            pays = other.pays.clone();
            people = new ArrayList<>(other.people);
            life = other.life.copy();
        }

        private int no(int refusal) {
            refused[-refusal]++;
            return refusal;
        }

        private boolean place(int p) {
            return 0 <= p && p < places;
        }

        int feed(int n, long bytes) {
            if (n < 1) {
                return no(-4);
            }
            if (n > 8 || tape.length() + n > 64) {
                return no(-6);
            }
            for (int i = 0; i < n; i++) {
                tape.append((char) (bytes >> (8 * i) & 0xff));
            }
            return tape.length();
        }

        int land() {
            String text = tape.toString();
            tape.setLength(0);
            for (int i = 0; i < text.length(); i++) {
                Matcher prefix = LAND.matcher(text.substring(0, i + 1));
                if (!prefix.matches() && !prefix.hitEnd()) {
                    return -1000 - i;
                }
            }
            if (!LAND.matcher(text).matches()) {
                return -1000 - text.length();
            }
            Model later = copy();
            Matcher each = STATEMENT.matcher(text);
            int n = 0;
            while (each.find()) {
                if (!later.comes(each)) {
                    return -2000 - each.start();
                }
                n++;
            }
            become(later);
            return n;
        }

        private boolean comes(Matcher m) {
            if (m.group(1) != null) {
                int n = Integer.parseInt(m.group(1));
                List<Integer> toldOf = new ArrayList<>(order);
                ways.forEach(w -> Collections.addAll(toldOf, w.a, w.b));
                things.forEach(t -> toldOf.add(t.place));
                people.forEach(p -> toldOf.add(p[0]));
                Collections.addAll(toldOf, home, life.at);
                for (int p = 0; p < 8; p++) {
                    if (weights[p] > 0) {
                        toldOf.add(p);
                    }
                }
                if (n < 2 || n > 8 || Collections.max(toldOf) >= n) {
                    return false;
                }
                places = n;
                return true;
            }
            if (m.group(2) != null) {
                Way w = new Way();
                w.a = Integer.parseInt(m.group(2));
                w.b = Integer.parseInt(m.group(3));
                w.miles = Integer.parseInt(m.group(4));
                boolean twice = ways.stream().anyMatch(v -> v.a == w.a && v.b == w.b || v.a == w.b && v.b == w.a);
                if (!place(w.a) || !place(w.b) || w.a == w.b || w.miles < 1 || w.miles > 200 || twice
                    || ways.size() == 14) {
                    return false;
                }
                ways.add(w);
                return true;
            }
            Thing t = new Thing();
            t.kind = m.group(5).charAt(0);
            t.place = Integer.parseInt(m.group(6));
            t.worth = Integer.parseInt(m.group(7));
            t.ask = Integer.parseInt(m.group(8));
            if (!place(t.place) || things.size() == 7 || t.kind == 'b' && t.ask >= things.size()) {
                return false;
            }
            things.add(t);
            return true;
        }

        /** By going over all WAYS again and again; -9 none. */
        private int miles(int from, int to) {
            int[] least = new int[8];
            Arrays.fill(least, -9);
            least[from] = 0;
            for (int i = 0; i < 8; i++) {
                for (Way w : ways) {
                    if (least[w.a] >= 0 && (least[w.b] < 0 || least[w.b] > least[w.a] + w.miles)) {
                        least[w.b] = least[w.a] + w.miles;
                    }
                    if (least[w.b] >= 0 && (least[w.a] < 0 || least[w.a] > least[w.b] + w.miles)) {
                        least[w.a] = least[w.b] + w.miles;
                    }
                }
            }
            return least[to];
        }

        int far(int from, int to) {
            return place(from) && place(to) ? miles(from, to) : no(-1);
        }

        private boolean isThing(int i) {
            return 0 <= i && i < things.size();
        }

        int thing(int i, int what) {
            if (!isThing(i)) {
                return no(-1);
            }
            if (what < 0 || what > 4) {
                return no(-2);
            }
            Thing t = things.get(i);
            return new int[] {"oabygl".indexOf(t.kind), t.place, t.worth, t.ask, life.had[i]}[what];
        }

        int set(int what, int v) {
            if (what < 0 || what > 3) {
                return no(-2);
            }
            int was;
            if (what == 3) {
                if (!place(v)) {
                    return no(-1);
                }
                was = home;
                home = v;
                return was;
            }
            if (v < 0 || what == 2 && v < 1) {
                return no(-4);
            }
            if (v > 999) {
                return no(-6);
            }
            was = what == 0 ? grown : what == 1 ? old : end;
            if (what == 0) {
                grown = v;
            } else if (what == 1) {
                old = v;
            } else {
                end = v;
            }
            return was;
        }

        private boolean goTo(Being b, int p) {
            int miles = miles(b.at, p);
            if (miles < 0 || b.age + miles > end) {
                return false;
            }
            b.age += miles;
            b.at = p;
            return true;
        }

        int go(int p) {
            if (!place(p)) {
                return no(-1);
            }
            return goTo(life, p) ? life.age : no(-3);
        }

        private int worth(Thing t, int age, int n) {
            int value = t.worth;
            if (t.kind == 'a') {
                for (int i = 0; i < n; i++) {
                    value /= 2;
                }
                return value;
            }
            if (n > 0) {
                return 0;
            }
            if (t.kind == 'y' && age > t.ask) {
                return value / 2;
            }
            if ((t.kind == 'g' || t.kind == 'l') && age < grown) {
                return 0;
            }
            if (t.kind == 'l' && value > 0) {
                for (int more = old + 50; more <= age; more += 50) {
                    value++;
                }
            }
            return value;
        }

        /** Whether one at the THING's PLACE MAY have it. */
        private boolean open(Being b, int i) {
            Thing t = things.get(i);
            if (t.kind == 'a') {
                return worth(t, 0, b.had[i]) > 0;
            }
            return b.had[i] == 0 && (t.kind != 'b' || b.had[t.ask] > 0);
        }

        private boolean may(Being b, int i) {
            return things.get(i).place == b.at && open(b, i);
        }

        private int take(Being b, int i) {
            int gain = worth(things.get(i), b.age, b.had[i]);
            b.had[i]++;
            b.worth += gain;
            return gain;
        }

        int have(int i) {
            if (!isThing(i)) {
                return no(-1);
            }
            return may(life, i) ? take(life, i) : no(-3);
        }

        int worthAt(int i, int age, int n) {
            if (!isThing(i)) {
                return no(-1);
            }
            if (Math.min(age, n) < 0) {
                return no(-4);
            }
            return age > 999 || n > 20 ? no(-6) : worth(things.get(i), age, n);
        }

        int may(int i) {
            return !isThing(i) ? no(-1) : may(life, i) ? 1 : 0;
        }

        int life(int what) {
            if (what < 0 || what > 4) {
                return no(-2);
            }
            int isGrown = life.age < grown ? 0 : 1;
            int isOld = life.age < old ? 0 : 1;
            return new int[] {life.at, life.age, life.worth, isGrown, isOld}[what];
        }

        private Being fresh(int at) {
            Being b = new Being();
            b.at = at;
            return b;
        }

        int nextLife() {
            int was = life.worth;
            life = fresh(home);
            return was;
        }

        int order(int n, long digits) {
            if (n < 0) {
                return no(-4);
            }
            if (n > 8) {
                return no(-6);
            }
            if (digits < 0) {
                return no(-1);
            }
            String text = new StringBuilder("00000000" + digits).reverse().substring(0, n);
            List<Integer> then = new ArrayList<>();
            for (char c : text.toCharArray()) {
                if (!place(c - '0')) {
                    return no(-1);
                }
                then.add(c - '0');
            }
            int was = order.size();
            order = then;
            return was;
        }

        private void settle(Being b, boolean onlyWorthy) {
            for (int i = 0; i < things.size(); i++) {
                if (may(b, i) && (!onlyWorthy || worth(things.get(i), b.age, b.had[i]) > 0)) {
                    take(b, i);
                }
            }
        }

        private int choose(Being b, int kind) {
            List<int[]> found = new ArrayList<>();
            for (int p = 0; p < places; p++) {
                Being there = b.copy();
                if (p != b.at && goTo(there, p)) {
                    for (int i = 0; i < things.size(); i++) {
                        if (may(there, i) && worth(things.get(i), there.age, there.had[i]) > 0) {
                            found.add(new int[] {there.age, p});
                            break;
                        }
                    }
                }
            }
            found.sort((v, w) -> v[0] != w[0] ? (kind == 0 ? v[0] - w[0] : w[0] - v[0]) : v[1] - w[1]);
            return found.isEmpty() ? -1 : found.get(0)[1];
        }

        int lived(int kind, int what) {
            if (kind < 0 || kind > 3 || what < 0 || what > 1) {
                return no(-2);
            }
            Being b = fresh(home);
            settle(b, true);
            if (kind < 2) {
                for (int p = choose(b, kind); p >= 0; p = choose(b, kind)) {
                    goTo(b, p);
                    settle(b, true);
                }
            }
            if (kind == 2) {
                for (int p : order) {
                    if (goTo(b, p)) {
                        settle(b, true);
                    }
                }
            }
            return what == 0 ? b.worth : b.age;
        }

        private List<Integer> bestRow = new ArrayList<>();
        private int bestWorth;

        private void allRows(Being b, List<Integer> so) {
            if (b.worth > bestWorth) {
                bestWorth = b.worth;
                bestRow = new ArrayList<>(so);
            }
            for (int i = 0; i < things.size(); i++) {
                if (!so.contains(i)) {
                    Being then = b.copy();
                    if (open(then, i) && goTo(then, things.get(i).place)) {
                        take(then, i);
                        so.add(i);
                        allRows(then, so);
                        so.remove(so.size() - 1);
                    }
                }
            }
        }

        private void best(Being from) {
            bestWorth = 0;
            bestRow = new ArrayList<>();
            allRows(from, new ArrayList<>());
        }

        int best(int i) {
            if (i < -1) {
                return no(-4);
            }
            best(fresh(home));
            return i == -1 ? bestWorth : i < bestRow.size() ? bestRow.get(i) : -9;
        }

        int house() {
            int most = -1;
            int where = -1;
            for (int p = 0; p < places; p++) {
                best(fresh(p));
                if (bestWorth > most) {
                    most = bestWorth;
                    where = p;
                }
            }
            return where;
        }

        int call(int p, int weight, int pay) {
            if (!place(p)) {
                return no(-1);
            }
            if (weight < 0 || pay < 0) {
                return no(-4);
            }
            if (weight > 9 || pay > 99) {
                return no(-6);
            }
            int was = weights[p];
            weights[p] = weight;
            pays[p] = pay;
            return was;
        }

        /** The mean as a fraction, told by trees of all that may come; rows kept by miles and n. */
        private BigInteger[] mean(int miles, int n, BigInteger[][][] kept) {
            BigInteger[] sum = {BigInteger.ZERO, BigInteger.ONE};
            int all = Arrays.stream(weights).sum();
            if (n == 0 || all == 0) {
                return sum;
            }
            if (kept[n][miles] != null) {
                return kept[n][miles];
            }
            for (int p = 0; p < places; p++) {
                if (weights[p] > 0) {
                    BigInteger[] most = mean(miles, n - 1, kept);
                    BigInteger[] going = going(miles, n, p, kept);
                    if (going != null && less(most, going)) {
                        most = going;
                    }
                    BigInteger above = most[0].multiply(BigInteger.valueOf(weights[p]));
                    BigInteger below = most[1].multiply(BigInteger.valueOf(all));
                    sum = reduced(sum[0].multiply(below).add(above.multiply(sum[1])), sum[1].multiply(below));
                }
            }
            kept[n][miles] = sum;
            return sum;
        }

        private BigInteger[] going(int miles, int n, int p, BigInteger[][][] kept) {
            int there = miles(home, p);
            if (there < 0 || 2 * there > miles) {
                return null;
            }
            BigInteger[] rest = mean(miles - 2 * there, n - 1, kept);
            return reduced(rest[0].add(rest[1].multiply(BigInteger.valueOf(pays[p]))), rest[1]);
        }

        private static boolean less(BigInteger[] v, BigInteger[] w) {
            return v[0].multiply(w[1]).compareTo(w[0].multiply(v[1])) < 0;
        }

        private static BigInteger[] reduced(BigInteger above, BigInteger below) {
            BigInteger common = above.gcd(below);
            return new BigInteger[] {above.divide(common), below.divide(common)};
        }

        long calls(int miles, int n, int part) {
            if (part != 0 && part != 1) {
                return 4000000000000000000L - no(-2);
            }
            if (miles < 0 || n < 0) {
                return 4000000000000000000L - no(-4);
            }
            if (miles > 999 || n > 6) {
                return 4000000000000000000L - no(-6);
            }
            return mean(miles, n, new BigInteger[7][1000][])[part].longValueExact();
        }

        int goes(int miles, int n, int p) {
            if (!place(p)) {
                return no(-1);
            }
            if (miles < 0 || n < 1) {
                return no(-4);
            }
            if (miles > 999 || n > 6) {
                return no(-6);
            }
            BigInteger[][][] kept = new BigInteger[7][1000][];
            BigInteger[] going = going(miles, n, p, kept);
            return going != null && !less(going, mean(miles, n - 1, kept)) ? 1 : 0;
        }

        int together(int a, int b) {
            if (a < 0 || b < 0) {
                return no(-4);
            }
            if (a > 999 || b > 999) {
                return no(-6);
            }
            int at = home;
            int reached = 0;
            for (int p : order) {
                int miles = miles(at, p);
                if (miles >= 0) {
                    a += miles;
                    b += miles;
                    at = p;
                    if (a <= end && b <= end) {
                        reached++;
                    }
                }
            }
            return reached;
        }

        int child(int a, int b, int m) {
            if (a < 0 || b < 0 || m < 0) {
                return no(-4);
            }
            if (a > 999 || b > 999 || m > 999) {
                return no(-6);
            }
            int most = -9;
            for (int i = 0; i <= m; i++) {
                if (i <= a && m - i <= b) {
                    most = Math.max(most, Math.min(a - i, b - m + i));
                }
            }
            return most;
        }

        int person(int p, int gone) {
            if (!place(p)) {
                return no(-1);
            }
            if (gone < 0) {
                return no(-4);
            }
            if (gone > 999 || people.size() == 4) {
                return no(-6);
            }
            people.add(new int[] {p, gone});
            return people.size();
        }

        int send(int p, int what) {
            if (!place(p)) {
                return no(-1);
            }
            if (what != 0 && what != 1) {
                return no(-2);
            }
            List<int[]> able = new ArrayList<>();
            for (int i = 0; i < people.size(); i++) {
                int miles = miles(people.get(i)[0], p);
                int gone = people.get(i)[1];
                if (miles >= 0 && gone + miles + miles <= end) {
                    int price = gone < grown ? 4 : gone < old ? 3 : 1;
                    able.add(new int[] {i, 2 * miles * price});
                }
            }
            able.sort((v, w) -> v[1] != w[1] ? v[1] - w[1] : v[0] - w[0]);
            return able.isEmpty() ? -9 : able.get(0)[what];
        }

        int wells(int k) {
            if (k < 1) {
                return no(-4);
            }
            if (k > 3 || k > places) {
                return no(-6);
            }
            int[] chosen = null;
            for (int bits = 0; bits < 256; bits++) {
                if (bits >> places == 0 && Integer.bitCount(bits) == k) {
                    int sum = 0;
                    for (int p = 0; p < places; p++) {
                        int nearest = -1;
                        for (int w = 0; w < places; w++) {
                            int miles = miles(w, p);
                            if ((bits & 1 << w) != 0 && miles >= 0 && (nearest < 0 || miles < nearest)) {
                                nearest = miles;
                            }
                        }
                        sum += nearest < 0 ? 1000 : nearest;
                    }
                    if (chosen == null || sum < chosen[1]) {
                        chosen = new int[] {bits, sum};
                    }
                }
            }
            return chosen[0];
        }

        long many(int n, int b, int s, int t) {
            if (n < 0 || b < 0 || s < 1 || t < 0) {
                return 4000000000000000000L - no(-4);
            }
            if (n > 999 || b > 9 || s > 9 || t > 15) {
                return 4000000000000000000L - no(-6);
            }
            return atStep(n, b, s, t);
        }

        private long atStep(int n, int b, int s, int t) {
            return t < s ? n : atStep(n, b, s, t - 1) + b * atStep(n, b, s, t - s);
        }

        int stray(int n, int z) {
            if (n < 1) {
                return no(-4);
            }
            if (n > 40) {
                return no(-6);
            }
            Being b = fresh(home);
            settle(b, false);
            BigInteger seed = BigInteger.valueOf(z);
            for (int i = 0; i < n; i++) {
                seed = seed.multiply(BigInteger.valueOf(1664525)).add(BigInteger.valueOf(1013904223));
                int draw = seed.mod(BigInteger.ONE.shiftLeft(31)).shiftRight(8).intValueExact();
                goTo(b, draw % places);
                settle(b, false);
            }
            return b.worth;
        }

        int row(int v) {
            if (v < 0) {
                return no(-4);
            }
            if (v > 9 || row.size() == 10) {
                return no(-6);
            }
            row.add(v);
            return row.size();
        }

        int judge(int what) {
            if (what != 0 && what != 1) {
                return no(-2);
            }
            int judged = -9;
            int oldOne = -9;
            Being b = fresh(home);
            for (int i = 0; i < row.size() && judged < 0; i++) {
                if (!place(row.get(i)) || !goTo(b, row.get(i))) {
                    judged = i;
                } else if (oldOne < 0 && b.age >= old) {
                    oldOne = i;
                }
            }
            row.clear();
            return what == 0 ? judged : oldOne;
        }

        int image() {
            pictured = copy();
            return places;
        }

        int on() {
            if (pictured == null) {
                return no(-3);
            }
            become(pictured);
            return places;
        }

        int count(int what) {
            int[] first = {places, ways.size(), things.size(), people.size(), order.size(),
                Arrays.stream(weights).sum(), row.size(), tape.length(), Arrays.stream(life.had).sum()};
            if (what >= 0 && what < first.length) {
                return first[what];
            }
            return what >= 11 && what <= 16 ? refused[what - 10] : -9;
        }
    }
}

import java.util.ArrayList;
import java.util.List;
import java.util.function.Supplier;
import java.util.function.ToLongFunction;

/**
 * "The call answers the number, the first that fits in the order in which it tells them; nothing changes but how many
 * there were": each refusal of each promise, held against a twin that was not asked.
 */
public final class RefusalsTest extends Checks {
    private static final int LEAST = Integer.MIN_VALUE;
    private static final int MOST = Integer.MAX_VALUE;
    private static final int REFUSALS = 6;

    public static void main(String[] args) {
        runAll(RefusalsTest.class);
    }

    /** One with something of all that can be told, an IMAGE, a ROW and letters. */
    private static AgesByMiles full() {
        AgesByMiles x = new AgesByMiles();
        tell(x, "n7;w01,20;w12,30;w23,40;w34,50;");
        tell(x, "to05,0;ta19,0;tb27,0;ty36,70;tg08,0;tl14,0;");
        x.set(0, 40);
        x.set(1, 90);
        x.set(2, 300);
        x.order(4, 3012);
        x.call(1, 2, 30);
        x.person(0, 50);
        x.have(0);
        x.image();
        tell(x, "w24,80;");
        x.set(3, 1);
        x.call(3, 3, 40);
        x.person(4, 10);
        x.go(1);
        x.have(1);
        x.row(2);
        x.row(5);
        tape(x, "n8;w56,7");
        return x;
    }

    private static AgesByMiles withFullTape() {
        AgesByMiles x = full();
        tape(x, ";" + "n8;".repeat(18));
        return x;
    }

    private static AgesByMiles withFullRow() {
        AgesByMiles x = full();
        for (int i = 0; i < 8; i++) {
            x.row(1);
        }
        return x;
    }

    private static AgesByMiles withAllPeople() {
        AgesByMiles x = full();
        x.person(1, 5);
        x.person(2, 200);
        return x;
    }

    /** All that can be seen but the REFUSALS; what has to be changed to be seen comes last. */
    private static List<Long> seen(AgesByMiles x) {
        List<Long> all = new ArrayList<>();
        for (int what = 0; what <= 8; what++) {
            all.add((long) x.count(what));
        }
        for (int from = 0; from < 7; from++) {
            for (int to = 0; to < from; to++) {
                all.add((long) x.far(from, to));
            }
            for (int what = 0; what < 5 && from < 6; what++) {
                all.add((long) x.thing(from, what));
            }
            all.add((long) x.goes(150, 3, from));
            all.add((long) x.send(from, 0));
            all.add((long) x.send(from, 1));
        }
        for (int what = 0; what < 5; what++) {
            all.add((long) x.life(what));
            all.add((long) x.best(what - 1));
        }
        for (int kind = 0; kind < 4; kind++) {
            all.add((long) x.lived(kind, 0));
            all.add((long) x.lived(kind, 1));
        }
        for (int n = 1; n <= 3; n++) {
            all.add((long) x.wells(n));
            all.add(x.calls(100 * n, n, 0));
            all.add((long) x.together(10 * n, 20));
            all.add((long) x.stray(9 * n, n));
        }
        all.add((long) x.house());
        all.addAll(seenByChanges(x));
        return all;
    }

    private static List<Long> seenByChanges(AgesByMiles x) {
        List<Long> all = new ArrayList<>();
        all.add((long) x.judge(0));
        for (int thing = 0; thing < 6; thing++) {
            all.add((long) x.may(thing));
        }
        all.add((long) x.nextLife());
        all.add((long) x.life(0));
        all.add((long) x.set(0, 1));
        all.add((long) x.set(1, 1));
        all.add((long) x.set(2, 1));
        all.add((long) x.set(3, 0));
        for (int place = 0; place < 7; place++) {
            all.add((long) x.call(place, 0, 0));
        }
        if (x.count(7) < 64) {
            x.feed(1, ';');
        }
        all.add((long) x.land());
        all.add((long) x.far(5, 6));
        all.add((long) x.on());
        for (int what = 0; what < 5; what++) {
            all.add((long) x.life(what));
            all.add((long) x.count(what));
        }
        return all;
    }

    /** That the call answers so, counts one REFUSAL more, and changes nothing else that a twin of x shows. */
    private static void refused(String told, Supplier<AgesByMiles> made, ToLongFunction<AgesByMiles> call, long answer,
        int refusal) {
        AgesByMiles x = made.get();
        AgesByMiles twin = made.get();
        due(told, call.applyAsLong(x), answer);
        for (int i = 1; i <= REFUSALS; i++) {
            due(told + ": how many of -" + i, x.count(10 + i), twin.count(10 + i) + (i == -refusal ? 1 : 0));
        }
        due(told + ": all else is as it was", seen(x).equals(seen(twin)) ? 1 : 0, 1);
    }

    private static void refused(String told, Supplier<AgesByMiles> made, ToLongFunction<AgesByMiles> call, int want) {
        refused(told, made, call, want, want);
    }

    private static void refused(String told, ToLongFunction<AgesByMiles> call, int want) {
        refused(told, RefusalsTest::full, call, want, want);
    }

    /** Of a call that answers a long. */
    private static void refusedLong(String told, ToLongFunction<AgesByMiles> call, int want) {
        refused(told, RefusalsTest::full, call, as(want), want);
    }

    static void promise0TheFullOneIsNotRefusedAnything() {
        AgesByMiles x = full();
        for (int i = 1; i <= REFUSALS; i++) {
            due("how many of -" + i, x.count(10 + i), 0);
        }
        due("PLACES", x.count(0), 7);
        due("THINGS", x.count(2), 6);
        due("two alike show alike", seen(full()).equals(seen(x)) ? 1 : 0, 1);
    }

    static void promise2Feed() {
        for (int n : new int[] {0, -1, LEAST}) {
            refused("feed(" + n + ")", x -> x.feed(n, 'n'), -4);
            refused("feed(" + n + ") when full", RefusalsTest::withFullTape, x -> x.feed(n, 'n'), -4);
        }
        for (int n : new int[] {9, 10, MOST}) {
            refused("feed(" + n + ")", x -> x.feed(n, -1L), -6);
            refused("feed(" + n + ") when full", RefusalsTest::withFullTape, x -> x.feed(n, -1L), -6);
        }
        for (int n = 2; n <= 8; n++) {
            int many = n;
            refused("feed(" + n + ") above 64", RefusalsTest::withFullTape, x -> x.feed(many, 'n'), -6);
        }
    }

    static void promise4Far() {
        for (int nobody : new int[] {-1, 7, 8, LEAST, MOST}) {
            refused("far(" + nobody + ", 0)", x -> x.far(nobody, 0), -1);
            refused("far(0, " + nobody + ")", x -> x.far(0, nobody), -1);
            refused("far(" + nobody + ", " + nobody + ")", x -> x.far(nobody, nobody), -1);
        }
    }

    static void promise5Thing() {
        for (int nobody : new int[] {-1, 6, 7, LEAST, MOST}) {
            refused("thing(" + nobody + ", 0)", x -> x.thing(nobody, 0), -1);
            refused("thing(" + nobody + ", 5)", x -> x.thing(nobody, 5), -1);
        }
        for (int other : new int[] {-1, 5, LEAST, MOST}) {
            refused("thing(5, " + other + ")", x -> x.thing(5, other), -2);
        }
    }

    static void promise6Set() {
        for (int other : new int[] {-1, 4, LEAST, MOST}) {
            refused("set(" + other + ", 1)", x -> x.set(other, 1), -2);
            refused("set(" + other + ", -1)", x -> x.set(other, -1), -2);
            refused("set(" + other + ", 1000)", x -> x.set(other, 1000), -2);
        }
        for (int nobody : new int[] {-1, 7, 8, 1000, LEAST, MOST}) {
            refused("HOME " + nobody, x -> x.set(3, nobody), -1);
        }
        for (int i = 0; i < 3; i++) {
            int what = i;
            int least = what == 2 ? 0 : -1;
            refused("set(" + what + ", " + least + ")", x -> x.set(what, least), -4);
            refused("set(" + what + ", least)", x -> x.set(what, LEAST), -4);
            refused("set(" + what + ", 1000)", x -> x.set(what, 1000), -6);
            refused("set(" + what + ", most)", x -> x.set(what, MOST), -6);
        }
    }

    static void promise7Go() {
        for (int nobody : new int[] {-1, 7, 8, LEAST, MOST}) {
            refused("go(" + nobody + ")", x -> x.go(nobody), -1);
        }
        refused("go(5) not to be come to", x -> x.go(5), -3);
        refused("go(4) beyond END", () -> {
            AgesByMiles x = full();
            x.set(2, 20 + 30 + 80 - 1);
            return x;
        }, x -> x.go(4), -3);
        refused("go(1) where it is, beyond END", () -> {
            AgesByMiles x = full();
            x.set(2, 19);
            return x;
        }, x -> x.go(1), -3);
    }

    static void promise8Have() {
        for (int nobody : new int[] {-1, 6, 7, LEAST, MOST}) {
            refused("have(" + nobody + ")", x -> x.have(nobody), -1);
        }
        refused("have(0) elsewhere, had", x -> x.have(0), -3);
        refused("have(3) elsewhere", x -> x.have(3), -3);
        refused("have(5) again", () -> {
            AgesByMiles x = full();
            x.have(5);
            return x;
        }, x -> x.have(5), -3);
        refused("have(1) used up", () -> {
            AgesByMiles x = full();
            x.have(1);
            x.have(1);
            x.have(1);
            return x;
        }, x -> x.have(1), -3);
        refused("have(2) ahead of what it asks", () -> {
            AgesByMiles x = full();
            x.nextLife();
            x.go(2);
            return x;
        }, x -> x.have(2), -3);
    }

    static void promise9WorthAt() {
        for (int nobody : new int[] {-1, 6, 7, LEAST, MOST}) {
            refused("worthAt(" + nobody + ", 0, 0)", x -> x.worthAt(nobody, 0, 0), -1);
            refused("worthAt(" + nobody + ", -1, 0)", x -> x.worthAt(nobody, -1, 0), -1);
            refused("worthAt(" + nobody + ", 0, 21)", x -> x.worthAt(nobody, 0, 21), -1);
        }
        for (int below : new int[] {-1, LEAST}) {
            refused("AGE " + below, x -> x.worthAt(5, below, 0), -4);
            refused("n " + below, x -> x.worthAt(5, 0, below), -4);
            refused("AGE " + below + ", n 21", x -> x.worthAt(5, below, 21), -4);
            refused("AGE 1000, n " + below, x -> x.worthAt(5, 1000, below), -4);
        }
        refused("AGE 1000", x -> x.worthAt(5, 1000, 20), -6);
        refused("AGE most", x -> x.worthAt(5, MOST, 20), -6);
        refused("n 21", x -> x.worthAt(5, 999, 21), -6);
        refused("n most", x -> x.worthAt(5, 999, MOST), -6);
    }

    static void promise10May() {
        for (int nobody : new int[] {-1, 6, 7, LEAST, MOST}) {
            refused("may(" + nobody + ")", x -> x.may(nobody), -1);
        }
    }

    static void promise11Life() {
        for (int other : new int[] {-1, 5, LEAST, MOST}) {
            refused("life(" + other + ")", x -> x.life(other), -2);
        }
    }

    static void promise13Order() {
        for (int below : new int[] {-1, LEAST}) {
            refused("order(" + below + ", 0)", x -> x.order(below, 0), -4);
            refused("order(" + below + ", -1)", x -> x.order(below, -1), -4);
        }
        for (int above : new int[] {9, MOST}) {
            refused("order(" + above + ", 0)", x -> x.order(above, 0), -6);
            refused("order(" + above + ", -1)", x -> x.order(above, -1), -6);
            refused("order(" + above + ", 7)", x -> x.order(above, 7), -6);
        }
        for (int n = 0; n <= 8; n++) {
            int many = n;
            refused("order(" + n + ", -1)", x -> x.order(many, -1), -1);
            refused("order(" + n + ", least)", x -> x.order(many, Long.MIN_VALUE), -1);
        }
        refused("order(1, 7)", x -> x.order(1, 7), -1);
        refused("order(3, 701)", x -> x.order(3, 701), -1);
        refused("order(8, 80000000)", x -> x.order(8, 80000000L), -1);
        refused("order(8, most)", x -> x.order(8, Long.MAX_VALUE), -1);
    }

    static void promise14Lived() {
        for (int other : new int[] {-1, 4, LEAST, MOST}) {
            refused("lived(" + other + ", 0)", x -> x.lived(other, 0), -2);
            refused("lived(" + other + ", 2)", x -> x.lived(other, 2), -2);
        }
        for (int other : new int[] {-1, 2, LEAST, MOST}) {
            refused("lived(3, " + other + ")", x -> x.lived(3, other), -2);
        }
    }

    static void promise15Best() {
        for (int below : new int[] {-2, LEAST}) {
            refused("best(" + below + ")", x -> x.best(below), -4);
        }
    }

    static void promise17Call() {
        for (int nobody : new int[] {-1, 7, 8, LEAST, MOST}) {
            refused("call(" + nobody + ", 1, 1)", x -> x.call(nobody, 1, 1), -1);
            refused("call(" + nobody + ", -1, 100)", x -> x.call(nobody, -1, 100), -1);
        }
        for (int below : new int[] {-1, LEAST}) {
            refused("WEIGHT " + below, x -> x.call(1, below, 1), -4);
            refused("PAY " + below, x -> x.call(1, 1, below), -4);
            refused("WEIGHT " + below + ", PAY 100", x -> x.call(1, below, 100), -4);
            refused("WEIGHT 10, PAY " + below, x -> x.call(1, 10, below), -4);
        }
        refused("WEIGHT 10", x -> x.call(1, 10, 1), -6);
        refused("WEIGHT most", x -> x.call(1, MOST, 1), -6);
        refused("PAY 100", x -> x.call(1, 1, 100), -6);
        refused("PAY most", x -> x.call(1, 1, MOST), -6);
    }

    static void promise18Calls() {
        for (int other : new int[] {-1, 2, LEAST, MOST}) {
            refusedLong("part " + other, x -> x.calls(9, 1, other), -2);
            refusedLong("part " + other + ", miles -1", x -> x.calls(-1, 7, other), -2);
        }
        for (int below : new int[] {-1, LEAST}) {
            refusedLong("miles " + below, x -> x.calls(below, 1, 0), -4);
            refusedLong("n " + below, x -> x.calls(9, below, 1), -4);
            refusedLong("miles " + below + ", n 7", x -> x.calls(below, 7, 0), -4);
            refusedLong("miles 1000, n " + below, x -> x.calls(1000, below, 1), -4);
        }
        refusedLong("miles 1000", x -> x.calls(1000, 6, 0), -6);
        refusedLong("miles most", x -> x.calls(MOST, 0, 1), -6);
        refusedLong("n 7", x -> x.calls(999, 7, 0), -6);
        refusedLong("n most", x -> x.calls(0, MOST, 1), -6);
    }

    static void promise19Goes() {
        for (int nobody : new int[] {-1, 7, 8, LEAST, MOST}) {
            refused("place " + nobody, x -> x.goes(9, 1, nobody), -1);
            refused("place " + nobody + ", n 0", x -> x.goes(-1, 0, nobody), -1);
            refused("place " + nobody + ", n 7", x -> x.goes(1000, 7, nobody), -1);
        }
        for (int below : new int[] {-1, LEAST}) {
            refused("miles " + below, x -> x.goes(below, 1, 1), -4);
            refused("miles " + below + ", n 7", x -> x.goes(below, 7, 1), -4);
        }
        for (int below : new int[] {0, -1, LEAST}) {
            refused("n " + below, x -> x.goes(9, below, 1), -4);
            refused("miles 1000, n " + below, x -> x.goes(1000, below, 1), -4);
        }
        refused("miles 1000", x -> x.goes(1000, 6, 1), -6);
        refused("miles most", x -> x.goes(MOST, 1, 1), -6);
        refused("n 7", x -> x.goes(999, 7, 1), -6);
        refused("n most", x -> x.goes(0, MOST, 1), -6);
    }

    static void promise20Together() {
        for (int below : new int[] {-1, LEAST}) {
            refused("a " + below, x -> x.together(below, 0), -4);
            refused("b " + below, x -> x.together(0, below), -4);
            refused("a " + below + ", b 1000", x -> x.together(below, 1000), -4);
            refused("a 1000, b " + below, x -> x.together(1000, below), -4);
        }
        for (int above : new int[] {1000, MOST}) {
            refused("a " + above, x -> x.together(above, 999), -6);
            refused("b " + above, x -> x.together(999, above), -6);
        }
    }

    static void promise21Child() {
        for (int below : new int[] {-1, LEAST}) {
            refused("a " + below, x -> x.child(below, 1000, 1000), -4);
            refused("b " + below, x -> x.child(1000, below, 1000), -4);
            refused("m " + below, x -> x.child(1000, 1000, below), -4);
        }
        for (int above : new int[] {1000, MOST}) {
            refused("a " + above, x -> x.child(above, 0, 0), -6);
            refused("b " + above, x -> x.child(0, above, 0), -6);
            refused("m " + above, x -> x.child(0, 0, above), -6);
        }
    }

    static void promise22Person() {
        for (int nobody : new int[] {-1, 7, 8, LEAST, MOST}) {
            refused("place " + nobody, x -> x.person(nobody, 0), -1);
            refused("place " + nobody + ", below", x -> x.person(nobody, -1), -1);
            refused("place " + nobody + ", above, all there", RefusalsTest::withAllPeople, x -> x.person(nobody, 1000), -1);
        }
        for (int below : new int[] {-1, LEAST}) {
            refused("gone " + below, x -> x.person(0, below), -4);
            refused("gone " + below + ", all there", RefusalsTest::withAllPeople, x -> x.person(0, below), -4);
        }
        for (int above : new int[] {1000, MOST}) {
            refused("gone " + above, x -> x.person(0, above), -6);
            refused("gone " + above + ", all there", RefusalsTest::withAllPeople, x -> x.person(0, above), -6);
        }
        refused("all there", RefusalsTest::withAllPeople, x -> x.person(0, 0), -6);
    }

    static void promise23Send() {
        for (int nobody : new int[] {-1, 7, 8, LEAST, MOST}) {
            refused("place " + nobody, x -> x.send(nobody, 0), -1);
            refused("place " + nobody + ", what 2", x -> x.send(nobody, 2), -1);
        }
        for (int other : new int[] {-1, 2, LEAST, MOST}) {
            refused("what " + other, x -> x.send(1, other), -2);
        }
    }

    static void promise24Wells() {
        for (int below : new int[] {0, -1, LEAST}) {
            refused("wells(" + below + ")", x -> x.wells(below), -4);
        }
        for (int above : new int[] {4, 7, MOST}) {
            refused("wells(" + above + ")", x -> x.wells(above), -6);
        }
    }

    static void promise25Many() {
        for (int below : new int[] {-1, LEAST}) {
            refusedLong("n " + below, x -> x.many(below, 10, 10, 16), -4);
            refusedLong("b " + below, x -> x.many(1000, below, 10, 16), -4);
            refusedLong("t " + below, x -> x.many(1000, 10, 10, below), -4);
        }
        for (int below : new int[] {0, -1, LEAST}) {
            refusedLong("s " + below, x -> x.many(1000, 10, below, 16), -4);
        }
        refusedLong("n 1000", x -> x.many(1000, 9, 9, 15), -6);
        refusedLong("b 10", x -> x.many(999, 10, 9, 15), -6);
        refusedLong("s 10", x -> x.many(999, 9, 10, 15), -6);
        refusedLong("t 16", x -> x.many(999, 9, 9, 16), -6);
        refusedLong("n most", x -> x.many(MOST, 0, 1, 0), -6);
        refusedLong("b most", x -> x.many(0, MOST, 1, 0), -6);
        refusedLong("s most", x -> x.many(0, 0, MOST, 0), -6);
        refusedLong("t most", x -> x.many(0, 0, 1, MOST), -6);
    }

    static void promise26Stray() {
        for (int below : new int[] {0, -1, LEAST}) {
            refused("stray(" + below + ", 0)", x -> x.stray(below, 0), -4);
        }
        for (int above : new int[] {41, MOST}) {
            refused("stray(" + above + ", -1)", x -> x.stray(above, -1), -6);
        }
    }

    static void promise27Row() {
        for (int below : new int[] {-1, LEAST}) {
            refused("row(" + below + ")", x -> x.row(below), -4);
            refused("row(" + below + ") when full", RefusalsTest::withFullRow, x -> x.row(below), -4);
        }
        for (int above : new int[] {10, MOST}) {
            refused("row(" + above + ")", x -> x.row(above), -6);
            refused("row(" + above + ") when full", RefusalsTest::withFullRow, x -> x.row(above), -6);
        }
        refused("row(0) when full", RefusalsTest::withFullRow, x -> x.row(0), -6);
    }

    static void promise28Judge() {
        for (int other : new int[] {-1, 2, LEAST, MOST}) {
            refused("judge(" + other + ")", x -> x.judge(other), -2);
        }
    }

    static void promise30On() {
        refused("on() without an IMAGE", AgesByMiles::new, AgesByMiles::on, -3);
    }

    /** Where no refusal is told, none is counted and nothing changes. */
    private static void keeps(String told, ToLongFunction<AgesByMiles> call) {
        AgesByMiles x = full();
        call.applyAsLong(x);
        for (int i = 1; i <= REFUSALS; i++) {
            due(told + ": how many of -" + i, x.count(10 + i), 0);
        }
        due(told + ": all else is as it was", seen(x).equals(seen(full())) ? 1 : 0, 1);
    }

    static void promise31WhatOnlyTellsChangesNothing() {
        keeps("far", x -> x.far(0, 5));
        keeps("thing", x -> x.thing(0, 0));
        keeps("worthAt", x -> x.worthAt(0, 999, 20));
        keeps("may", x -> x.may(3));
        keeps("life", x -> x.life(4));
        keeps("lived NEAR", x -> x.lived(0, 0));
        keeps("lived FAR", x -> x.lived(1, 1));
        keeps("lived ROUND", x -> x.lived(2, 0));
        keeps("lived SIT", x -> x.lived(3, 1));
        keeps("best", x -> x.best(-1));
        keeps("best, none such", x -> x.best(7));
        keeps("house", AgesByMiles::house);
        keeps("calls", x -> x.calls(999, 6, 1));
        keeps("goes", x -> x.goes(999, 6, 6));
        keeps("together", x -> x.together(999, 0));
        keeps("child", x -> x.child(0, 0, 1));
        keeps("send", x -> x.send(6, 0));
        keeps("wells", x -> x.wells(3));
        keeps("many", x -> x.many(999, 9, 1, 15));
        keeps("stray", x -> x.stray(40, -1));
        keeps("count", x -> x.count(9));
    }

    /** Each call with the least, the greatest and all around 0, in a new one and in a full one: none throws. */
    static void promise31NoCallThrows() {
        int[] some = {LEAST, LEAST + 1, -1000, -9, -2, -1, 0, 1, 2, 3, 4, 7, 8, 9, 10, 15, 40, 63, 64, 99, 999, 1000,
            MOST - 1, MOST};
        for (int a : some) {
            for (int b : some) {
                AgesByMiles x = a == b ? new AgesByMiles() : full();
                callAll(x, a, b);
            }
        }
        due("none threw", 1, 1);
    }

    private static void callAll(AgesByMiles x, int a, int b) {
        x.feed(a, b);
        x.land();
        x.far(a, b);
        x.thing(a, b);
        x.set(a, b);
        x.go(a);
        x.have(a);
        x.worthAt(a, b, a);
        x.worthAt(0, a, b);
        x.may(a);
        x.life(a);
        x.nextLife();
        x.order(a, b);
        x.order(b, (long) a << 32 | b);
        x.lived(a, b);
        x.best(a);
        x.house();
        x.call(a, b, a);
        x.call(0, a, b);
        x.calls(a, b, 0);
        x.calls(a, b, 1);
        x.calls(0, a, b);
        x.goes(a, b, a);
        x.goes(a, b, 0);
        x.goes(0, a, b);
        x.together(a, b);
        x.child(a, b, a);
        x.child(a, a, b);
        x.person(a, b);
        x.send(a, b);
        x.wells(a);
        x.many(a, b, a, b);
        x.many(1, a, b, 1);
        x.many(1, 1, a, b);
        x.stray(a, b);
        x.stray(b, a);
        x.row(a);
        x.judge(b);
        x.image();
        x.on();
        x.count(a);
    }
}

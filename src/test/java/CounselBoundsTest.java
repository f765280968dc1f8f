/**
 * Each sentence about promises 15 to 26 (best, house, call, calls, goes, together, child, person, send, wells, many,
 * stray) that names a boundary case has a test of its own here.
 */
public final class CounselBoundsTest extends Checks {
    public static void main(String[] args) {
        runAll(CounselBoundsTest.class);
    }

    /** BEST's WORTH, its THINGS and none behind the last. */
    private static void bestOf(AgesByMiles x, int worth, int... things) {
        due("WORTH", x.best(-1), worth);
        for (int i = 0; i < things.length; i++) {
            due("THING " + i, x.best(i), things[i]);
        }
        due("none behind the last", x.best(things.length), -9);
    }

    // Promise 15: "BEST: its WORTH (i -1), its i-th THING; -9 none such. -4."

    static void promise15BelowMinus1() {
        AgesByMiles x = with("to05,0;");
        due("best(-1)", x.best(-1), 5);
        due("best(-2)", x.best(-2), -4);
        due("far below", x.best(Integer.MIN_VALUE), -4);
        due("refused", x.count(14), 2);
    }

    static void promise15NoneSuch() {
        AgesByMiles x = with("to05,0;");
        due("the first", x.best(0), 0);
        for (int i : new int[] {1, 6, 7, 8, 1000, Integer.MAX_VALUE}) {
            due("best(" + i + ")", x.best(i), -9);
        }
        for (int what = 11; what <= 16; what++) {
            due("nothing is counted", x.count(what), 0);
        }
    }

    static void promise15WithoutThings() {
        bestOf(new AgesByMiles(), 0);
        bestOf(with("w01,5;to10,0;"), 0);
        bestOf(with("to19,0;"), 0);
    }

    static void promise15AllSeven() {
        AgesByMiles x = with("to01,0;to01,0;to01,0;to01,0;to01,0;to01,0;to01,0;");
        bestOf(x, 7, 0, 1, 2, 3, 4, 5, 6);
        AgesByMiles most = with("n8;w01,1;w12,1;w23,1;w34,1;w45,1;w56,1;w67,1;",
            "to799,0;to699,0;to599,0;to499,0;to399,0;to299,0;to199,0;");
        most.set(2, 7);
        bestOf(most, 7 * 99, 6, 5, 4, 3, 2, 1, 0);
        most.set(2, 6);
        bestOf(most, 6 * 99, 6, 5, 4, 3, 2, 1);
    }

    static void promise15UpToEnd() {
        AgesByMiles x = with("w01,50;w02,30;to15,0;to23,0;");
        x.set(2, 110);
        bestOf(x, 8, 1, 0);
        x.set(2, 109);
        bestOf(x, 5, 0);
        x.set(2, 50);
        bestOf(x, 5, 0);
        x.set(2, 49);
        bestOf(x, 3, 1);
        x.set(2, 30);
        bestOf(x, 3, 1);
        x.set(2, 29);
        bestOf(x, 0);
    }

    static void promise15CanNotBeComeTo() {
        AgesByMiles x = with("w01,5;w23,5;to29,0;to11,0;to39,0;");
        x.set(2, 999);
        bestOf(x, 1, 1);
    }

    static void promise15EachOnceAgainOnesToo() {
        bestOf(with("ta099,0;ta09,0;"), 108, 0, 1);
        bestOf(with("ta00,0;ta09,0;"), 9, 1);
    }

    static void promise15OfSeveralTheFirstByNumbers() {
        bestOf(with("w01,5;to15,0;to05,0;to15,0;"), 15, 0, 1, 2);
        AgesByMiles x = with("w01,5;w02,5;w12,5;to25,0;to15,0;to15,0;to25,0;");
        x.set(2, 10);
        bestOf(x, 20, 0, 3, 1, 2);
        x.set(2, 9);
        bestOf(x, 10, 0, 3);
    }

    static void promise15ShorterAheadOfThoseThatGoOn() {
        bestOf(with("to05,0;to00,0;"), 5, 0);
        bestOf(with("to00,0;to05,0;to00,0;"), 5, 0, 1);
        bestOf(with("to00,0;"), 0);
        bestOf(with("w01,5;to19,0;tg05,0;ty00,0;"), 9, 0);
    }

    static void promise15WhenItMayBeHad() {
        bestOf(with("to01,0;tb09,0;"), 10, 0, 1);
        bestOf(with("w01,1;to10,0;tb09,0;"), 9, 0, 1);
        bestOf(with("to10,0;tb09,0;"), 0);
        bestOf(with("ta00,0;tb09,0;"), 0);
    }

    static void promise15AtTheAgeThatItHas() {
        AgesByMiles grown = with("w01,50;tg09,0;to11,0;");
        bestOf(grown, 10, 1, 0);
        // Never grown in time, 0 is had for nothing at once, and such a row comes first by numbers.
        grown.set(0, 101);
        bestOf(grown, 1, 0, 1);
        grown.set(0, 100);
        grown.set(2, 99);
        bestOf(grown, 1, 0, 1);
        grown.set(2, 100);
        bestOf(grown, 10, 1, 0);
        AgesByMiles young = with("w01,50;ty19,50;ty19,49;");
        bestOf(young, 9 + 4, 0, 1);
        AgesByMiles late = with("w01,175;tl09,0;to10,0;to00,0;");
        bestOf(late, 10, 1, 0);
        late.set(2, 349);
        bestOf(late, 0);
    }

    static void promise15FromHomeWithNothingHad() {
        AgesByMiles x = with("w01,5;to05,0;to17,0;");
        x.have(0);
        x.go(1);
        x.set(2, 4);
        bestOf(x, 5, 0);
        x.set(3, 1);
        bestOf(x, 7, 1);
        due("the LIFE at hand stays", x.count(8), 1);
    }

    // Promise 16: "HOUSE: the PLACE that as HOME gives the greatest WORTH of BEST, of several the least."

    static void promise16OfSeveralTheLeast() {
        due("none is worth more", new AgesByMiles().house(), 0);
        due("all alike", with("w01,1;w12,1;w23,1;to35,0;").house(), 0);
        AgesByMiles x = with("w01,1;w12,1;w23,1;to35,0;");
        x.set(2, 2);
        due("1, 2 and 3 alike", x.house(), 1);
        x.set(2, 1);
        due("2 and 3 alike", x.house(), 2);
        AgesByMiles y = with("n8;to75,0;to65,0;to24,0;");
        due("6 and 7 alike", y.house(), 6);
    }

    static void promise16TheLastPlace() {
        AgesByMiles x = with("n8;to75,0;");
        due("7", x.house(), 7);
        due("HOME stays", x.set(3, 0), 0);
        due("the LIFE at hand stays", x.life(0), 0);
    }

    static void promise16GreaterBy1() {
        AgesByMiles x = with("to05,0;to14,0;to36,0;");
        due("6 against 5", x.house(), 3);
        tell(x, "to01,0;");
        due("6 against 6", x.house(), 0);
    }

    static void promise16ForAWorthOf1() {
        due("1", with("to11,0;").house(), 1);
        due("3", with("to31,0;").house(), 3);
    }

    static void promise16ByAllSevenThings() {
        AgesByMiles x = with("n8;w12,1;w23,1;w34,1;w45,1;w56,1;", "to09,0;to09,0;to09,0;to01,0;");
        due("28 at 0", x.house(), 0);
        tell(x, "to719,0;to79,0;");
        due("28 at 7, too", x.house(), 0);
        tell(x, "to71,0;");
        due("29 at 7", x.house(), 7);
        AgesByMiles all = with("to31,0;to31,0;to31,0;to31,0;to31,0;to31,0;to26,0;");
        due("6 and 6", all.house(), 2);
        AgesByMiles seven = with("w23,1;to31,0;to31,0;to31,0;to31,0;to31,0;to31,0;to36,0;");
        seven.set(2, 1);
        due("all seven at 3, and at 2 by a mile", seven.house(), 2);
        AgesByMiles last = with("w23,1;to21,0;to21,0;to21,0;to21,0;to21,0;to21,0;ty31,0;");
        due("all seven from 3 alone", last.house(), 3);
    }

    static void promise16WhicheverHomeIs() {
        AgesByMiles x = with("to05,0;to16,0;");
        for (int home = 0; home < 4; home++) {
            x.set(3, home);
            due("HOUSE", x.house(), 1);
        }
    }

    // Promise 17: "CALLS from a PLACE: what WEIGHT was. -1; -4; -6 (9; 99)."

    static void promise17NoSuchPlace() {
        AgesByMiles x = with("n5;");
        for (int nobody : new int[] {-1, 5, 8, Integer.MIN_VALUE, Integer.MAX_VALUE}) {
            due("call(" + nobody + ", 1, 1)", x.call(nobody, 1, 1), -1);
        }
        due("below, too", x.call(5, -1, -1), -1);
        due("above, too", x.call(5, 10, 100), -1);
        due("refused", x.count(11), 7);
        due("the last", x.call(4, 1, 1), 0);
    }

    static void promise17BelowTheLeast() {
        AgesByMiles x = new AgesByMiles();
        x.call(0, 1, 7);
        due("WEIGHT -1", x.call(0, -1, 0), -4);
        due("PAY -1", x.call(0, 0, -1), -4);
        due("WEIGHT far below", x.call(0, Integer.MIN_VALUE, 0), -4);
        due("PAY far below", x.call(0, 0, Integer.MIN_VALUE), -4);
        due("WEIGHT above, PAY below", x.call(0, 10, -1), -4);
        due("WEIGHT below, PAY above", x.call(0, -1, 100), -4);
        due("refused", x.count(14), 6);
        due("PAY stays", x.calls(0, 1, 0), 7);
        due("0 and 0", x.call(0, 0, 0), 1);
        due("0 was", x.call(0, 0, 0), 0);
    }

    static void promise17AboveTheGreatest() {
        AgesByMiles x = new AgesByMiles();
        due("9 and 99", x.call(0, 9, 99), 0);
        due("WEIGHT 10", x.call(0, 10, 0), -6);
        due("PAY 100", x.call(0, 0, 100), -6);
        due("WEIGHT far above", x.call(0, Integer.MAX_VALUE, 0), -6);
        due("PAY far above", x.call(0, 0, Integer.MAX_VALUE), -6);
        due("refused", x.count(16), 4);
        due("PAY stays", x.calls(0, 1, 0), 99);
        due("WEIGHT stays", x.call(0, 1, 1), 9);
    }

    static void promise17EachPlaceByItself() {
        AgesByMiles x = with("n8;");
        for (int place = 0; place < 8; place++) {
            due("0 at first", x.call(place, place + 1, 10 * place), 0);
        }
        due("all WEIGHTS", x.count(5), 36);
        for (int place = 0; place < 8; place++) {
            due("what WEIGHT was", x.call(place, 9, 99), place + 1);
        }
        due("all WEIGHTS", x.count(5), 72);
    }

    // Promise 18: "The mean, part 0 above, 1 below the line (0 by 1 without WEIGHTS). Refused as told: -2; -4; -6
    // (999; 6)."

    private static void mean(AgesByMiles x, int miles, int n, long above, long below) {
        due(n + " by " + miles + " miles, above", x.calls(miles, n, 0), above);
        due(n + " by " + miles + " miles, below", x.calls(miles, n, 1), below);
    }

    static void promise18OtherPart() {
        AgesByMiles x = new AgesByMiles();
        for (int part : new int[] {-1, 2, Integer.MIN_VALUE, Integer.MAX_VALUE}) {
            due("part " + part, x.calls(0, 0, part), 4000000000000000002L);
        }
        due("below, too", x.calls(-1, -1, 2), 4000000000000000002L);
        due("above, too", x.calls(1000, 7, 2), 4000000000000000002L);
        due("refused", x.count(12), 6);
    }

    static void promise18BelowTheLeast() {
        AgesByMiles x = new AgesByMiles();
        due("0 and 0", x.calls(0, 0, 0), 0);
        due("miles -1", x.calls(-1, 0, 0), 4000000000000000004L);
        due("n -1", x.calls(0, -1, 1), 4000000000000000004L);
        due("miles far below", x.calls(Integer.MIN_VALUE, 0, 0), 4000000000000000004L);
        due("n far below", x.calls(0, Integer.MIN_VALUE, 1), 4000000000000000004L);
        due("miles above, n below", x.calls(1000, -1, 0), 4000000000000000004L);
        due("miles below, n above", x.calls(-1, 7, 0), 4000000000000000004L);
        due("refused", x.count(14), 6);
    }

    static void promise18AboveTheGreatest() {
        AgesByMiles x = new AgesByMiles();
        x.call(0, 1, 1);
        mean(x, 999, 6, 6, 1);
        due("miles 1000", x.calls(1000, 6, 0), 4000000000000000006L);
        due("n 7", x.calls(999, 7, 1), 4000000000000000006L);
        due("miles far above", x.calls(Integer.MAX_VALUE, 6, 0), 4000000000000000006L);
        due("n far above", x.calls(999, Integer.MAX_VALUE, 1), 4000000000000000006L);
        due("refused", x.count(16), 4);
    }

    static void promise18WithoutWeights() {
        AgesByMiles x = with("w01,5;");
        x.call(0, 0, 99);
        x.call(1, 0, 99);
        for (int n = 0; n <= 6; n++) {
            mean(x, 0, n, 0, 1);
            mean(x, 999, n, 0, 1);
        }
    }

    static void promise18NoCall() {
        AgesByMiles x = new AgesByMiles();
        x.call(0, 9, 99);
        mean(x, 999, 0, 0, 1);
        mean(x, 0, 0, 0, 1);
    }

    static void promise18TwiceFarOfTheMilesLeft() {
        AgesByMiles x = with("w01,7;");
        x.call(1, 1, 10);
        mean(x, 0, 1, 0, 1);
        mean(x, 13, 1, 0, 1);
        mean(x, 14, 1, 10, 1);
        mean(x, 27, 2, 10, 1);
        mean(x, 28, 2, 20, 1);
        mean(x, 83, 6, 50, 1);
        mean(x, 84, 6, 60, 1);
        mean(x, 999, 6, 60, 1);
    }

    static void promise18TheLongestWayThereAndBack() {
        AgesByMiles x = with("n5;w01,200;w12,200;w23,99;w34,1;");
        x.call(3, 1, 10);
        mean(x, 997, 6, 0, 1);
        mean(x, 998, 6, 10, 1);
        mean(x, 999, 6, 10, 1);
        x.call(3, 0, 0);
        x.call(4, 1, 10);
        mean(x, 999, 6, 0, 1);
    }

    static void promise18AtHomeForNoMiles() {
        AgesByMiles x = new AgesByMiles();
        x.call(0, 1, 99);
        mean(x, 0, 6, 6 * 99, 1);
        x.set(3, 1);
        mean(x, 999, 6, 0, 1);
    }

    static void promise18CanNotBeComeTo() {
        AgesByMiles x = with("w01,5;");
        x.call(2, 3, 99);
        mean(x, 999, 6, 0, 1);
        x.call(1, 1, 8);
        mean(x, 999, 1, 2, 1);
    }

    static void promise18ByWeight() {
        AgesByMiles x = with("w01,1;w02,1;");
        x.call(1, 9, 1);
        x.call(2, 1, 99);
        mean(x, 999, 1, 54, 5);
    }

    static void promise18InLeastTerms() {
        AgesByMiles x = new AgesByMiles();
        x.call(0, 6, 10);
        x.call(1, 9, 99);
        mean(x, 0, 1, 4, 1);
        mean(x, 0, 6, 24, 1);
        x.call(0, 5, 9);
        mean(x, 0, 1, 45, 14);
        mean(x, 0, 2, 45, 7);
        x.call(0, 9, 0);
        mean(x, 0, 6, 0, 1);
    }

    static void promise18MostWeightsOfAll() {
        AgesByMiles x = with("n8;w01,1;w02,2;w03,3;w04,4;w05,5;w06,6;w07,7;");
        for (int place = 0; place < 8; place++) {
            x.call(place, 9, 99);
        }
        mean(x, 84, 6, 594, 1);
        // One goes at 7 alone only by 14 miles or more: of the eight the seven others are gone to.
        mean(x, 13, 1, 7 * 99, 8);
        // All six at 7 is the only way to want more than 83 miles: the loss is one PAY in 8 to the sixth.
        mean(x, 83, 6, 594L * 262144 - 99, 262144);
    }

    static void promise18SitsForWhatMayComeLater() {
        AgesByMiles x = with("w01,10;w02,10;");
        x.call(1, 1, 10);
        x.call(2, 1, 30);
        // By 20 miles one goes once: at 1 for 10 now or, sitting, for the mean of the CALLS left.
        mean(x, 20, 1, 20, 1);
        mean(x, 20, 2, 25, 1);
        mean(x, 20, 3, 55, 2);
        mean(x, 20, 6, 475, 16);
    }

    // Promise 19: "Whether one goes: 1, 0. -1; -4 (n below 1); -6 (999; 6)."

    static void promise19NoSuchPlace() {
        AgesByMiles x = with("n5;");
        for (int nobody : new int[] {-1, 5, 8, Integer.MIN_VALUE, Integer.MAX_VALUE}) {
            due("place " + nobody, x.goes(0, 1, nobody), -1);
        }
        due("below, too", x.goes(-1, 0, 5), -1);
        due("above, too", x.goes(1000, 7, 5), -1);
        due("refused", x.count(11), 7);
    }

    static void promise19BelowTheLeast() {
        AgesByMiles x = new AgesByMiles();
        due("miles 0, n 1", x.goes(0, 1, 0), 1);
        due("miles -1", x.goes(-1, 1, 0), -4);
        due("n 0", x.goes(0, 0, 0), -4);
        due("n -1", x.goes(0, -1, 0), -4);
        due("miles far below", x.goes(Integer.MIN_VALUE, 1, 0), -4);
        due("n far below", x.goes(0, Integer.MIN_VALUE, 0), -4);
        due("miles above, n below", x.goes(1000, 0, 0), -4);
        due("miles below, n above", x.goes(-1, 7, 0), -4);
        due("refused", x.count(14), 7);
    }

    static void promise19AboveTheGreatest() {
        AgesByMiles x = new AgesByMiles();
        due("miles 999, n 6", x.goes(999, 6, 0), 1);
        due("miles 1000", x.goes(1000, 6, 0), -6);
        due("n 7", x.goes(999, 7, 0), -6);
        due("miles far above", x.goes(Integer.MAX_VALUE, 6, 0), -6);
        due("n far above", x.goes(999, Integer.MAX_VALUE, 0), -6);
        due("refused", x.count(16), 4);
    }

    static void promise19IfSoManyMilesAreLeft() {
        AgesByMiles x = with("n5;w01,7;w02,200;w23,200;w34,99;");
        due("13", x.goes(13, 1, 1), 0);
        due("14", x.goes(14, 1, 1), 1);
        due("0, at HOME", x.goes(0, 1, 0), 1);
        due("997", x.goes(997, 1, 4), 0);
        due("998", x.goes(998, 1, 4), 1);
    }

    static void promise19CanNotBeComeTo() {
        AgesByMiles x = with("w01,7;");
        x.call(2, 9, 99);
        due("none", x.goes(999, 1, 2), 0);
        due("none of six", x.goes(999, 6, 3), 0);
        x.set(3, 2);
        due("from another HOME", x.goes(999, 6, 1), 0);
        due("HOME", x.goes(0, 6, 2), 1);
    }

    static void promise19GoingWhereItIsNoLess() {
        AgesByMiles x = with("w01,10;w02,10;");
        x.call(2, 1, 30);
        for (int n = 2; n <= 6; n++) {
            x.call(1, 0, 29);
            due("less by 1", x.goes(20, n, 1), 0);
            x.call(1, 0, 30);
            due("no less", x.goes(20, n, 1), 1);
            x.call(1, 0, 31);
            due("more by 1", x.goes(20, n, 1), 1);
        }
    }

    static void promise19LessByThePartOf1() {
        AgesByMiles x = with("w01,10;w02,10;");
        x.call(1, 1, 14);
        x.call(2, 2, 15);
        // The mean of one CALL is 44/3, more than 14 by 2/3 and less than 15.
        due("at 1", x.goes(20, 2, 1), 0);
        due("at 2", x.goes(20, 2, 2), 1);
        x.call(2, 2, 14);
        due("at 1, no less", x.goes(20, 2, 1), 1);
    }

    static void promise19TheLastCallIsGoneTo() {
        AgesByMiles x = with("w01,10;w02,10;");
        x.call(1, 1, 0);
        x.call(2, 9, 99);
        due("for no PAY", x.goes(20, 1, 1), 1);
        due("with another CALL to come", x.goes(20, 2, 1), 0);
        due("with miles for both", x.goes(40, 2, 1), 1);
    }

    static void promise19WithoutWeights() {
        AgesByMiles x = with("w01,10;");
        due("n 1", x.goes(20, 1, 1), 1);
        due("n 6", x.goes(20, 6, 1), 1);
        due("n 6, not so many miles", x.goes(19, 6, 1), 0);
    }

    // Promise 20: "TOGETHER. -4; -6 999."

    static void promise20BelowTheLeast() {
        AgesByMiles x = new AgesByMiles();
        due("0 and 0", x.together(0, 0), 0);
        due("a -1", x.together(-1, 0), -4);
        due("b -1", x.together(0, -1), -4);
        due("a far below", x.together(Integer.MIN_VALUE, 0), -4);
        due("b far below", x.together(0, Integer.MIN_VALUE), -4);
        due("a above, b below", x.together(1000, -1), -4);
        due("a below, b above", x.together(-1, 1000), -4);
        due("refused", x.count(14), 6);
    }

    static void promise20AboveTheGreatest() {
        AgesByMiles x = new AgesByMiles();
        x.order(1, 0);
        x.set(2, 999);
        due("999 and 999", x.together(999, 999), 1);
        due("a 1000", x.together(1000, 0), -6);
        due("b 1000", x.together(0, 1000), -6);
        due("a far above", x.together(Integer.MAX_VALUE, 0), -6);
        due("b far above", x.together(0, Integer.MAX_VALUE), -6);
        due("refused", x.count(16), 4);
    }

    static void promise20WithoutOrder() {
        due("0", with("w01,1;").together(0, 0), 0);
    }

    static void promise20BothWithinEnd() {
        AgesByMiles x = with("w01,50;");
        x.order(4, 101);
        due("both", x.together(0, 0), 4);
        due("200 more than 200", x.together(200, 200), 4);
        due("a by 1 more", x.together(201, 200), 3);
        due("b by 1 more", x.together(200, 201), 3);
        due("at END itself", x.together(350, 0), 1);
        due("beyond END", x.together(351, 0), 0);
        due("b at END itself", x.together(0, 350), 1);
        due("b beyond END", x.together(0, 351), 0);
    }

    static void promise20NotToBeComeToIsLeftOut() {
        AgesByMiles x = with("w01,50;");
        x.order(8, 31213020L);
        // 0, 2 none, 0, 3 none, 1, 2 none, 1, 3 none.
        due("four of eight", x.together(0, 0), 4);
    }

    static void promise20BeyondEndIsWalkedAllTheSame() {
        AgesByMiles x = with("w01,200;w02,1;");
        x.set(2, 100);
        x.order(2, 12);
        due("2, then 1", x.together(0, 0), 1);
        x.order(2, 21);
        due("1, then 2", x.together(0, 0), 0);
    }

    static void promise20FromHome() {
        AgesByMiles x = with("w01,100;w12,100;");
        x.order(2, 10);
        due("from 0", x.together(201, 0), 2);
        x.set(3, 2);
        due("from 2", x.together(201, 0), 0);
        due("from 2", x.together(200, 0), 1);
        x.set(3, 3);
        due("none can be come to", x.together(0, 0), 0);
        x.go(1);
        x.set(3, 0);
        due("not from where the LIFE at hand is", x.together(0, 300), 2);
    }

    static void promise20EightPlacesBeyondAllMiles() {
        AgesByMiles x = with("n8;w01,200;w12,200;w23,200;w34,200;w45,200;w56,200;w67,200;");
        x.order(8, 7070707L);
        x.set(2, 999);
        due("none", x.together(999, 999), 0);
        x.order(8, 70707070L);
        due("HOME alone", x.together(0, 0), 1);
    }

    // Promise 21: "CHILD; -9. -4; -6 999."

    static void promise21BelowTheLeast() {
        AgesByMiles x = new AgesByMiles();
        due("0, 0, 0", x.child(0, 0, 0), 0);
        due("a -1", x.child(-1, 0, 0), -4);
        due("b -1", x.child(0, -1, 0), -4);
        due("m -1", x.child(0, 0, -1), -4);
        due("a far below", x.child(Integer.MIN_VALUE, 0, 0), -4);
        due("b far below", x.child(0, Integer.MIN_VALUE, 0), -4);
        due("m far below", x.child(0, 0, Integer.MIN_VALUE), -4);
        due("m below, others above", x.child(1000, 1000, -1), -4);
        due("a below, others above", x.child(-1, 1000, 1000), -4);
        due("b below, others above", x.child(1000, -1, 1000), -4);
        due("refused", x.count(14), 9);
    }

    static void promise21AboveTheGreatest() {
        AgesByMiles x = new AgesByMiles();
        due("999, 999, 999", x.child(999, 999, 999), 499);
        due("a 1000", x.child(1000, 0, 0), -6);
        due("b 1000", x.child(0, 1000, 0), -6);
        due("m 1000", x.child(999, 999, 1000), -6);
        due("a far above", x.child(Integer.MAX_VALUE, 0, 0), -6);
        due("b far above", x.child(0, Integer.MAX_VALUE, 0), -6);
        due("m far above", x.child(0, 0, Integer.MAX_VALUE), -6);
        due("refused", x.count(16), 6);
    }

    static void promise21TheyCanNot() {
        AgesByMiles x = new AgesByMiles();
        due("just", x.child(3, 4, 7), 0);
        due("one mile more", x.child(3, 4, 8), -9);
        due("none left", x.child(0, 0, 1), -9);
        due("one alone, just", x.child(0, 999, 999), 0);
        due("one alone, one mile less", x.child(0, 998, 999), -9);
        due("nothing is counted", x.count(14) + x.count(16), 0);
    }

    static void promise21NoMile() {
        AgesByMiles x = new AgesByMiles();
        due("the one less", x.child(5, 9, 0), 5);
        due("the other", x.child(9, 5, 0), 5);
        due("none", x.child(0, 9, 0), 0);
    }

    static void promise21TheOneWithMoreWalksFirst() {
        AgesByMiles x = new AgesByMiles();
        due("it alone", x.child(10, 4, 5), 4);
        due("just it alone", x.child(10, 4, 6), 4);
        due("one mile more", x.child(10, 4, 7), 3);
        due("two more", x.child(10, 4, 8), 3);
        due("three more", x.child(10, 4, 9), 2);
        due("the other way round", x.child(4, 10, 9), 2);
        due("all", x.child(10, 4, 14), 0);
    }

    // Promise 22: "One of the PEOPLE more: how many. -1; -4; -6 (999; 4, too)."

    static void promise22NoSuchPlace() {
        AgesByMiles x = with("n5;");
        for (int nobody : new int[] {-1, 5, 8, Integer.MIN_VALUE, Integer.MAX_VALUE}) {
            due("place " + nobody, x.person(nobody, 0), -1);
        }
        due("below, too", x.person(5, -1), -1);
        due("above, too", x.person(5, 1000), -1);
        due("refused", x.count(11), 7);
        due("none came", x.count(3), 0);
        due("the last PLACE", x.person(4, 0), 1);
    }

    static void promise22BelowTheLeast() {
        AgesByMiles x = new AgesByMiles();
        due("-1", x.person(0, -1), -4);
        due("far below", x.person(0, Integer.MIN_VALUE), -4);
        due("refused", x.count(14), 2);
        due("0", x.person(0, 0), 1);
    }

    static void promise22AboveTheGreatest() {
        AgesByMiles x = new AgesByMiles();
        due("1000", x.person(0, 1000), -6);
        due("far above", x.person(0, Integer.MAX_VALUE), -6);
        due("refused", x.count(16), 2);
        due("999", x.person(0, 999), 1);
    }

    static void promise22FourAtMost() {
        AgesByMiles x = new AgesByMiles();
        for (int i = 1; i <= 4; i++) {
            due("one more", x.person(0, 400 - i), i);
        }
        due("a fifth", x.person(0, 0), -6);
        due("a fifth nowhere", x.person(4, 0), -1);
        due("a fifth below", x.person(0, -1), -4);
        due("a fifth above", x.person(0, 1000), -6);
        due("PEOPLE", x.count(3), 4);
        due("refused", x.count(16), 2);
    }

    // Promise 23: "SEND: who (what 0; -9), for how much (1; -9). -1; -2."

    private static void sent(AgesByMiles x, int place, int who, int price) {
        due("who to " + place, x.send(place, 0), who);
        due("for how much to " + place, x.send(place, 1), price);
    }

    static void promise23NoSuchPlace() {
        AgesByMiles x = with("n5;");
        for (int nobody : new int[] {-1, 5, 8, Integer.MIN_VALUE, Integer.MAX_VALUE}) {
            due("place " + nobody, x.send(nobody, 0), -1);
        }
        due("other, too", x.send(5, 2), -1);
        due("refused", x.count(11), 6);
    }

    static void promise23OtherWhat() {
        AgesByMiles x = with("n5;");
        int[] others = {-1, 2, Integer.MIN_VALUE, Integer.MAX_VALUE};
        for (int i = 0; i < others.length; i++) {
            due("what " + others[i], x.send(4, others[i]), -2);
            due("refused", x.count(12), i + 1);
        }
    }

    static void promise23None() {
        AgesByMiles x = with("w01,5;");
        sent(x, 1, -9, -9);
        x.person(2, 0);
        sent(x, 1, -9, -9);
        sent(x, 2, 0, 0);
        due("nothing is counted", x.count(11) + x.count(12) + x.count(13), 0);
    }

    static void promise23PriceByMilesGone() {
        int[] gone = {0, 99, 100, 299, 300, 390};
        int[] price = {4, 4, 3, 3, 1, 1};
        for (int i = 0; i < gone.length; i++) {
            AgesByMiles x = with("w01,5;");
            x.person(0, gone[i]);
            sent(x, 1, 0, 10 * price[i]);
        }
    }

    static void promise23BelowGrownComesAheadOfOld() {
        AgesByMiles x = with("w01,5;");
        x.set(0, 200);
        x.set(1, 100);
        x.person(0, 199);
        sent(x, 1, 0, 40);
        x.set(0, 199);
        sent(x, 1, 0, 10);
        x.set(1, 200);
        sent(x, 1, 0, 30);
        x.set(0, 0);
        x.set(1, 0);
        sent(x, 1, 0, 10);
    }

    static void promise23ThereAndBackWithinEnd() {
        AgesByMiles x = with("w01,50;");
        x.person(0, 300);
        sent(x, 1, 0, 100);
        x.set(2, 399);
        sent(x, 1, -9, -9);
        sent(x, 0, 0, 0);
        x.set(2, 300);
        sent(x, 0, 0, 0);
        x.set(2, 299);
        sent(x, 0, -9, -9);
    }

    static void promise23OfSeveralTheLeastNumber() {
        AgesByMiles x = with("w01,3;w02,4;w03,12;");
        x.person(1, 50);
        x.person(2, 150);
        x.person(3, 350);
        x.person(1, 50);
        // 3 there and back for 4, 4 for 3, 12 for 1: 24 each.
        sent(x, 0, 0, 24);
        sent(x, 2, 1, 0);
        x.set(0, 51);
        sent(x, 0, 0, 24);
        x.set(0, 50);
        sent(x, 0, 0, 18);
        x.set(0, 151);
        sent(x, 0, 0, 24);
    }

    static void promise23ForLeast() {
        AgesByMiles x = with("w01,10;w02,9;w03,1;");
        x.person(1, 350);
        x.person(2, 350);
        x.person(3, 0);
        x.person(3, 350);
        sent(x, 0, 3, 2);
        x.set(2, 368);
        sent(x, 0, 3, 2);
        x.set(2, 351);
        sent(x, 0, 2, 8);
    }

    static void promise23OneThatCanNotIsLeftOut() {
        AgesByMiles x = with("w01,100;");
        x.person(0, 399);
        x.person(2, 0);
        x.person(0, 200);
        sent(x, 1, 2, 600);
    }

    // Promise 24: "WELLS (bits). -4; -6 (3; more than PLACES)."

    static void promise24BelowTheLeast() {
        AgesByMiles x = new AgesByMiles();
        due("0", x.wells(0), -4);
        due("-1", x.wells(-1), -4);
        due("far below", x.wells(Integer.MIN_VALUE), -4);
        due("refused", x.count(14), 3);
        due("1", x.wells(1), 1);
    }

    static void promise24AboveTheGreatest() {
        AgesByMiles x = with("n8;");
        due("3", x.wells(3), 7);
        due("4", x.wells(4), -6);
        due("8", x.wells(8), -6);
        due("far above", x.wells(Integer.MAX_VALUE), -6);
        due("refused", x.count(16), 3);
    }

    static void promise24MoreThanPlaces() {
        AgesByMiles x = with("n2;");
        due("2 of 2", x.wells(2), 3);
        due("3 of 2", x.wells(3), -6);
        tell(x, "n3;");
        due("3 of 3", x.wells(3), 7);
    }

    static void promise24OfSeveralTheLeastAsBits() {
        AgesByMiles x = with("w01,5;w12,5;w23,5;w03,5;");
        due("one of a ring", x.wells(1), 1);
        due("two of a ring", x.wells(2), 3);
        due("three of a ring", x.wells(3), 7);
        due("without WAYS, one", new AgesByMiles().wells(1), 1);
        due("without WAYS, two", new AgesByMiles().wells(2), 3);
    }

    static void promise24LessBy1() {
        AgesByMiles x = with("n3;w01,5;w12,5;");
        due("the middle", x.wells(1), 2);
        due("two", x.wells(2), 3);
        AgesByMiles y = with("n3;w01,5;w12,6;");
        due("two, with the longer WAY's end", y.wells(2), 5);
    }

    static void promise24ThePlace7() {
        AgesByMiles x = with("n8;w70,1;w71,1;w72,1;w73,1;w74,1;w75,1;w76,1;");
        due("one", x.wells(1), 128);
        due("two", x.wells(2), 129);
        due("three", x.wells(3), 131);
    }

    static void promise24NoneCanBeComeToIs1000() {
        AgesByMiles x = with("n3;w01,200;");
        due("the lone one", x.wells(2), 5);
        AgesByMiles alike = with("n7;w01,200;w12,200;w23,200;w34,200;w45,200;");
        // A well at 2 and one at 6: 1800; at 2 and at another of the row: 800 or more, and 1000.
        due("1000 alike", alike.wells(2), 2 + 16);
        AgesByMiles fewer = with("n7;w12,200;w23,200;w34,200;w45,200;w56,200;");
        due("1000 alike, the least as bits", fewer.wells(2), 1 + 8);
    }

    // Promise 25: "MANY. Refused as told: -4 (s below 1, too); -6 (n 999; 9; 9; 15)."

    static void promise25BelowTheLeast() {
        AgesByMiles x = new AgesByMiles();
        due("least of all", x.many(0, 0, 1, 0), 0);
        due("n -1", x.many(-1, 0, 1, 0), 4000000000000000004L);
        due("b -1", x.many(0, -1, 1, 0), 4000000000000000004L);
        due("s 0", x.many(0, 0, 0, 0), 4000000000000000004L);
        due("s -1", x.many(0, 0, -1, 0), 4000000000000000004L);
        due("t -1", x.many(0, 0, 1, -1), 4000000000000000004L);
        int least = Integer.MIN_VALUE;
        due("n far below", x.many(least, 0, 1, 0), 4000000000000000004L);
        due("b far below", x.many(0, least, 1, 0), 4000000000000000004L);
        due("s far below", x.many(0, 0, least, 0), 4000000000000000004L);
        due("t far below", x.many(0, 0, 1, least), 4000000000000000004L);
        due("refused", x.count(14), 9);
    }

    static void promise25AboveTheGreatest() {
        AgesByMiles x = new AgesByMiles();
        due("greatest of all", x.many(999, 9, 9, 15), 999 * (1 + 7 * 9));
        due("n 1000", x.many(1000, 0, 1, 0), 4000000000000000006L);
        due("b 10", x.many(0, 10, 1, 0), 4000000000000000006L);
        due("s 10", x.many(0, 0, 10, 0), 4000000000000000006L);
        due("t 16", x.many(0, 0, 1, 16), 4000000000000000006L);
        int most = Integer.MAX_VALUE;
        due("n far above", x.many(most, 0, 1, 0), 4000000000000000006L);
        due("b far above", x.many(0, most, 1, 0), 4000000000000000006L);
        due("s far above", x.many(0, 0, most, 0), 4000000000000000006L);
        due("t far above", x.many(0, 0, 1, most), 4000000000000000006L);
        due("refused", x.count(16), 8);
    }

    static void promise25BelowComesAheadOfAbove() {
        AgesByMiles x = new AgesByMiles();
        due("n", x.many(-1, 10, 10, 16), 4000000000000000004L);
        due("b", x.many(1000, -1, 10, 16), 4000000000000000004L);
        due("s", x.many(1000, 10, 0, 16), 4000000000000000004L);
        due("t", x.many(1000, 10, 10, -1), 4000000000000000004L);
    }

    static void promise25AheadOfStepSNoneIsAdded() {
        AgesByMiles x = new AgesByMiles();
        for (int s = 1; s <= 9; s++) {
            due("step " + (s - 1), x.many(7, 2, s, s - 1), 7);
            due("step " + s, x.many(7, 2, s, s), 21);
        }
    }

    static void promise25FromStepSOnEachStepAdds() {
        AgesByMiles x = new AgesByMiles();
        long[] want = {5, 5, 5, 15, 25, 35, 65, 115, 185};
        for (int t = 0; t < want.length; t++) {
            due("step " + t, x.many(5, 2, 3, t), want[t]);
        }
    }

    static void promise25Step0() {
        AgesByMiles x = new AgesByMiles();
        due("999", x.many(999, 9, 1, 0), 999);
        due("1", x.many(1, 0, 9, 0), 1);
    }

    static void promise25NoneAndNothingAdded() {
        AgesByMiles x = new AgesByMiles();
        due("n 0", x.many(0, 9, 1, 15), 0);
        due("b 0", x.many(999, 0, 1, 15), 999);
    }

    static void promise25TheGreatestIsALong() {
        AgesByMiles x = new AgesByMiles();
        long want = 999;
        for (int t = 0; t <= 15; t++) {
            due("step " + t, x.many(999, 9, 1, t), want);
            want *= 10;
        }
    }

    // Promise 26: "STRAY. -4; -6 40."

    static void promise26BelowTheLeast() {
        AgesByMiles x = new AgesByMiles();
        due("n 1", x.stray(1, 0), 0);
        due("n 0", x.stray(0, 0), -4);
        due("n -1", x.stray(-1, 0), -4);
        due("far below", x.stray(Integer.MIN_VALUE, 0), -4);
        due("refused", x.count(14), 3);
    }

    static void promise26AboveTheGreatest() {
        AgesByMiles x = new AgesByMiles();
        due("n 40", x.stray(40, 0), 0);
        due("n 41", x.stray(41, 0), -6);
        due("far above", x.stray(Integer.MAX_VALUE, 0), -6);
        due("refused", x.count(16), 2);
    }

    /** The first DRAW below m by a seed, reckoned without an int's wrap-around. */
    private static int draw(int seed, int m) {
        long z = Math.floorMod(seed * 1664525L + 1013904223L, 1L << 32);
        return (int) (z % (1L << 31) / 256 % m);
    }

    static void promise26TheSeedWrapsAround() {
        int[] seeds = {0, 1, -1, 2, 645, 646, 1000000000, -1000000000, Integer.MAX_VALUE, Integer.MIN_VALUE,
            Integer.MAX_VALUE - 1, Integer.MIN_VALUE + 1, 1 << 30, 1 << 8, 255, -256};
        for (int places = 2; places <= 8; places++) {
            StringBuilder land = new StringBuilder().append('n').append(places).append(';');
            for (int place = 1; place < places; place++) {
                land.append("w0").append(place).append(",1;");
            }
            StringBuilder things = new StringBuilder();
            for (int place = 1; place < places; place++) {
                things.append("to").append(place).append(place).append(",0;");
            }
            AgesByMiles x = with(land.toString(), things.toString());
            for (int seed : seeds) {
                due("seed " + seed + " below " + places, x.stray(1, seed), draw(seed, places));
            }
        }
    }

    static void promise26TheSignIsLeftOut() {
        AgesByMiles x = with("n8;w01,1;w02,1;w03,1;w04,1;w05,1;w06,1;w07,1;",
            "to11,0;to22,0;to33,0;to44,0;to55,0;to66,0;to77,0;");
        int seen = 0;
        for (int seed = 645; seed < 745; seed++) {
            if (seed * 1664525 + 1013904223 < 0) {
                seen++;
                due("seed " + seed, x.stray(1, seed), draw(seed, 8));
            }
        }
        due("seeds with a sign behind the first DRAW", seen > 10 ? 1 : 0, 1);
    }

    static void promise26EachDrawGoesOnFromTheLast() {
        AgesByMiles x = with("n8;w01,1;w02,1;w03,1;w04,1;w05,1;w06,1;w07,1;",
            "to11,0;to22,0;to34,0;to48,0;to516,0;to632,0;to764,0;");
        for (int seed = -3; seed <= 3; seed++) {
            int z = seed;
            int worth = 0;
            for (int n = 1; n <= 40; n++) {
                int place = draw(z, 8);
                z = z * 1664525 + 1013904223;
                worth |= place == 0 ? 0 : 1 << (place - 1);
                if (n == 1 || n == 2 || n == 5 || n == 40) {
                    due(n + " times by seed " + seed, x.stray(n, seed), worth);
                }
            }
        }
    }

    /** A seed by which the first DRAW below m is this one. */
    private static int seedOf(int m, int place) {
        for (int seed = 0; seed < 1000; seed++) {
            if (draw(seed, m) == place) {
                return seed;
            }
        }
        return -1;
    }

    static void promise26WhereItIsAtFirst() {
        AgesByMiles x = with("to05,0;");
        for (int place = 0; place < 4; place++) {
            due("with a DRAW of " + place, x.stray(1, seedOf(4, place)), 5);
        }
    }

    static void promise26ItselfStays() {
        AgesByMiles x = with("ta08,0;");
        due("AGAIN behind the DRAW", x.stray(1, seedOf(4, 0)), 12);
    }

    static void promise26NotToBeComeToStays() {
        AgesByMiles x = with("ta08,0;to39,0;");
        due("AGAIN behind the DRAW", x.stray(1, seedOf(4, 3)), 12);
    }

    static void promise26BeyondEndStays() {
        AgesByMiles x = with("w03,50;ta08,0;to39,0;");
        int seed = seedOf(4, 3);
        x.set(2, 50);
        due("up to END", x.stray(1, seed), 17);
        x.set(2, 49);
        due("beyond END", x.stray(1, seed), 12);
    }

    static void promise26AllThatMayBeHadForAWorthOf0Too() {
        AgesByMiles x = with("n2;w01,50;tg07,0;to10,0;tb15,1;");
        due("a GROWN ONE is had ahead of GROWN; BEHIND a WORTH of 0", x.stray(1, seedOf(2, 1)), 5);
        x.set(0, 0);
        due("grown from the first", x.stray(1, seedOf(2, 1)), 12);
    }

    static void promise26FreshFromHome() {
        AgesByMiles x = with("w01,5;to05,0;to19,0;");
        x.have(0);
        x.go(1);
        int stay = seedOf(4, 2);
        due("at HOME", x.stray(1, stay), 5);
        x.set(3, 1);
        due("at another HOME", x.stray(1, stay), 9);
        due("the LIFE at hand stays", x.life(2), 5);
    }

    static void promise26TheSameSeedTheSameWorth() {
        AgesByMiles x = with("w01,5;w12,6;w23,7;ta099,0;ta150,0;ty29,9;tl38,0;");
        for (int seed = -5; seed <= 5; seed++) {
            due("seed " + seed, x.stray(20, seed), x.stray(20, seed));
        }
    }
}

/**
 * Each sentence about promises 6 to 14 (set, go, have, worthAt, may, life, nextLife, order, lived) that names a
 * boundary case has a test of its own here.
 */
public final class LifeBoundsTest extends Checks {
    public static void main(String[] args) {
        runAll(LifeBoundsTest.class);
    }

    // Promise 6: "A SETTING: what it was (the LIFE at hand stays). -2; -1 HOME; -4; -6."

    static void promise6OtherWhat() {
        AgesByMiles x = new AgesByMiles();
        int[] others = {-1, 4, Integer.MIN_VALUE, Integer.MAX_VALUE};
        for (int i = 0; i < others.length; i++) {
            due("set(" + others[i] + ", 1)", x.set(others[i], 1), -2);
            due("refused", x.count(12), i + 1);
        }
    }

    static void promise6OtherComesFirst() {
        AgesByMiles x = new AgesByMiles();
        due("below, too", x.set(4, -1), -2);
        due("above, too", x.set(4, 1000), -2);
        due("below, too", x.set(-1, -1), -2);
    }

    static void promise6HomeMustBeThere() {
        AgesByMiles x = with("n6;");
        due("the last", x.set(3, 5), 0);
        due("beyond the last", x.set(3, 6), -1);
        due("below the first", x.set(3, -1), -1);
        due("far above", x.set(3, 1000), -1);
        due("farthest above", x.set(3, Integer.MAX_VALUE), -1);
        due("farthest below", x.set(3, Integer.MIN_VALUE), -1);
        due("refused -1", x.count(11), 5);
        due("not -4", x.count(14), 0);
        due("not -6", x.count(16), 0);
        due("the first", x.set(3, 0), 5);
    }

    /** A SETTING's least and greatest; just outside both it stays. */
    private static void settingFrom(int what, int least, int first) {
        AgesByMiles x = new AgesByMiles();
        due("below the least", x.set(what, least - 1), -4);
        due("farthest below", x.set(what, Integer.MIN_VALUE), -4);
        due("above the greatest", x.set(what, 1000), -6);
        due("farthest above", x.set(what, Integer.MAX_VALUE), -6);
        due("refused -4", x.count(14), 2);
        due("refused -6", x.count(16), 2);
        due("as at first", x.set(what, least), first);
        due("the least", x.set(what, 999), least);
        due("the greatest", x.set(what, 1000), -6);
        due("the greatest still", x.set(what, least + 1), 999);
    }

    static void promise6GrownFrom0To999() {
        settingFrom(0, 0, 100);
    }

    static void promise6OldFrom0To999() {
        settingFrom(1, 0, 300);
    }

    static void promise6EndFrom1To999() {
        settingFrom(2, 1, 400);
    }

    static void promise6EachByItself() {
        AgesByMiles x = new AgesByMiles();
        x.set(0, 11);
        x.set(1, 12);
        x.set(2, 13);
        x.set(3, 1);
        due("GROWN", x.set(0, 11), 11);
        due("OLD", x.set(1, 12), 12);
        due("END", x.set(2, 13), 13);
        due("HOME", x.set(3, 1), 1);
    }

    static void promise6TheLifeAtHandStays() {
        AgesByMiles x = with("w01,50;w12,50;tg010,0;");
        x.have(0);
        x.go(1);
        x.set(0, 0);
        x.set(1, 0);
        x.set(2, 1);
        x.set(3, 2);
        due("PLACE", x.life(0), 1);
        due("AGE", x.life(1), 50);
        due("WORTH", x.life(2), 0);
        due("had", x.thing(0, 4), 1);
    }

    // Promise 7: "GO: AGE then. -1; -3 it can not be come to, is beyond END."

    static void promise7NoSuchPlace() {
        AgesByMiles x = with("n5;w04,5;");
        int[] nobodies = {-1, 5, 8, Integer.MIN_VALUE, Integer.MAX_VALUE};
        for (int i = 0; i < nobodies.length; i++) {
            due("go(" + nobodies[i] + ")", x.go(nobodies[i]), -1);
            due("refused", x.count(11), i + 1);
        }
        due("the last", x.go(4), 5);
    }

    static void promise7CanNotBeComeTo() {
        AgesByMiles x = with("w01,5;");
        x.set(2, 999);
        due("go(2)", x.go(2), -3);
        due("go(3)", x.go(3), -3);
        due("refused", x.count(13), 2);
        due("PLACE", x.life(0), 0);
        due("AGE", x.life(1), 0);
    }

    static void promise7UpToEnd() {
        AgesByMiles x = with("w01,200;");
        due("200", x.go(1), 200);
        due("400, END", x.go(0), 400);
        due("beyond END", x.go(1), -3);
        due("it stays", x.life(0), 0);
        due("AGE stays", x.life(1), 400);
    }

    static void promise7BeyondEndBy1() {
        AgesByMiles x = with("w01,200;");
        x.set(2, 199);
        due("beyond END", x.go(1), -3);
        x.set(2, 200);
        due("up to END", x.go(1), 200);
    }

    static void promise7WhereItIs() {
        AgesByMiles x = with("w01,9;");
        due("no mile", x.go(0), 0);
        x.go(1);
        due("no mile", x.go(1), 9);
        x.set(2, 9);
        due("no mile at END", x.go(1), 9);
        x.set(2, 8);
        due("beyond END already", x.go(1), -3);
    }

    static void promise7EndOf999() {
        AgesByMiles x = with("w01,200;w02,199;");
        x.set(2, 999);
        for (int i = 1; i <= 4; i++) {
            due("to and fro", x.go(i % 2), 200 * i);
        }
        due("999", x.go(2), 999);
        due("beyond", x.go(0), -3);
    }

    static void promise7ByFar() {
        AgesByMiles x = with("w01,5;w12,6;w23,7;");
        due("over two others", x.go(3), 18);
        due("half back", x.go(1), 31);
    }

    // Promise 8: "It is had: its WORTH. -1; -3 it MAY not be had."

    static void promise8NoSuchThing() {
        AgesByMiles x = with("to01,0;to02,0;");
        int[] nobodies = {-1, 2, 7, Integer.MIN_VALUE, Integer.MAX_VALUE};
        for (int i = 0; i < nobodies.length; i++) {
            due("have(" + nobodies[i] + ")", x.have(nobodies[i]), -1);
            due("refused", x.count(11), i + 1);
        }
        due("the last", x.have(1), 2);
        due("none", new AgesByMiles().have(0), -1);
    }

    static void promise8OnceAndThoseUnderItOnce() {
        for (char kind : "oygl".toCharArray()) {
            AgesByMiles x = with("t" + kind + "08,50;");
            x.set(0, 0);
            due(kind + " once", x.have(0), 8);
            due(kind + " again", x.have(0), -3);
            due("had", x.thing(0, 4), 1);
            due("refused", x.count(13), 1);
        }
        AgesByMiles x = with("to00,0;tb08,0;");
        x.have(0);
        due("b once", x.have(1), 8);
        due("b again", x.have(1), -3);
    }

    static void promise8OnceForAWorthOf0() {
        AgesByMiles x = with("to00,0;tg09,0;tl09,0;ty01,0;w01,5;");
        due("a ONCE", x.have(0), 0);
        due("a ONCE again", x.have(0), -3);
        due("a GROWN ONE ahead of GROWN", x.have(1), 0);
        due("a GROWN ONE again", x.have(1), -3);
        due("a LATE ahead of GROWN", x.have(2), 0);
        x.go(1);
        x.go(0);
        due("a YOUNG later, cut to 0", x.have(3), 0);
        due("a YOUNG again", x.have(3), -3);
        due("had, each time", x.count(8), 4);
        due("WORTH", x.life(2), 0);
    }

    static void promise8AgainTillItsWorthIs0() {
        AgesByMiles x = with("ta099,0;ta01,0;ta00,0;");
        int sum = 0;
        for (int worth : new int[] {99, 49, 24, 12, 6, 3, 1}) {
            due("AGAIN", x.have(0), worth);
            sum += worth;
        }
        due("no more", x.have(0), -3);
        due("WORTH 1", x.have(1), 1);
        due("WORTH 1 again", x.have(1), -3);
        due("WORTH 0", x.have(2), -3);
        due("WORTH of all", x.life(2), sum + 1);
        due("refused", x.count(13), 3);
    }

    static void promise8BehindWhatItAsks() {
        AgesByMiles x = with("to01,0;to02,0;tb08,1;");
        due("ahead of it", x.have(2), -3);
        x.have(0);
        due("behind another", x.have(2), -3);
        x.have(1);
        due("behind it", x.have(2), 8);
        x.nextLife();
        due("in the NEXT LIFE", x.have(2), -3);
    }

    static void promise8AtItsPlaceAlone() {
        AgesByMiles x = with("w01,5;to15,0;ta16,0;");
        due("elsewhere", x.have(0), -3);
        due("AGAIN elsewhere", x.have(1), -3);
        x.go(1);
        due("there", x.have(0), 5);
        due("AGAIN there", x.have(1), 6);
        x.go(0);
        due("AGAIN elsewhere", x.have(1), -3);
    }

    static void promise8YoungWhileAgeIsAskOrLess() {
        AgesByMiles x = with("w01,30;ty17,30;ty17,29;ty17,0;");
        x.go(1);
        due("at ASK", x.have(0), 7);
        due("later by 1", x.have(1), 3);
        due("later", x.have(2), 3);
    }

    static void promise8GrownOneFromGrownOn() {
        AgesByMiles x = with("w01,100;tg17,0;tg16,0;");
        x.go(1);
        x.set(0, 101);
        due("1 ahead of GROWN", x.have(0), 0);
        x.set(0, 100);
        due("at GROWN", x.have(1), 6);
    }

    // Promise 9: "WORTH of having it (BEHIND as if what it asks was had). -1; -4; -6 (999; 20)."

    static void promise9NoSuchThing() {
        AgesByMiles x = with("to01,0;to02,0;");
        for (int nobody : new int[] {-1, 2, 7, Integer.MIN_VALUE, Integer.MAX_VALUE}) {
            due("worthAt(" + nobody + ", 0, 0)", x.worthAt(nobody, 0, 0), -1);
        }
        due("below, too", x.worthAt(2, -1, -1), -1);
        due("above, too", x.worthAt(2, 1000, 21), -1);
        due("refused", x.count(11), 7);
        due("the last", x.worthAt(1, 0, 0), 2);
    }

    static void promise9BelowTheLeast() {
        AgesByMiles x = with("to05,0;");
        due("AGE 0", x.worthAt(0, 0, 0), 5);
        due("AGE -1", x.worthAt(0, -1, 0), -4);
        due("n -1", x.worthAt(0, 0, -1), -4);
        due("AGE far below", x.worthAt(0, Integer.MIN_VALUE, 0), -4);
        due("n far below", x.worthAt(0, 0, Integer.MIN_VALUE), -4);
        due("refused", x.count(14), 4);
    }

    static void promise9AboveTheGreatest() {
        AgesByMiles x = with("to05,0;ta05,0;");
        due("AGE 999", x.worthAt(0, 999, 0), 5);
        due("AGE 1000", x.worthAt(0, 1000, 0), -6);
        due("n 20", x.worthAt(1, 0, 20), 0);
        due("n 20 of a ONCE", x.worthAt(0, 0, 20), 0);
        due("n 21", x.worthAt(1, 0, 21), -6);
        due("AGE far above", x.worthAt(0, Integer.MAX_VALUE, 0), -6);
        due("n far above", x.worthAt(1, 0, Integer.MAX_VALUE), -6);
        due("refused", x.count(16), 4);
    }

    static void promise9BelowComesAheadOfAbove() {
        AgesByMiles x = with("to05,0;");
        due("AGE above, n below", x.worthAt(0, 1000, -1), -4);
        due("AGE below, n above", x.worthAt(0, -1, 21), -4);
    }

    static void promise9OnceForTheFirstTimeAlone() {
        AgesByMiles x = with("to08,0;tb08,0;ty08,999;tg08,0;tl08,0;");
        x.set(0, 0);
        for (int thing = 0; thing < 5; thing++) {
            due("n 0", x.worthAt(thing, 0, 0), 8);
            for (int n = 1; n <= 20; n++) {
                due("n " + n, x.worthAt(thing, 999, n), 0);
            }
        }
    }

    static void promise9AgainHalvedEachTimeCut() {
        AgesByMiles x = with("ta099,0;ta064,0;ta00,0;");
        int odd = 99;
        int even = 64;
        for (int n = 0; n <= 20; n++) {
            due("99, n " + n, x.worthAt(0, 0, n), odd);
            due("64, n " + n, x.worthAt(1, 999, n), even);
            due("0, n " + n, x.worthAt(2, 0, n), 0);
            odd /= 2;
            even /= 2;
        }
    }

    static void promise9BehindAsIfHad() {
        AgesByMiles x = with("to08,0;tb09,0;");
        due("what it asks was not had", x.worthAt(1, 0, 0), 9);
        x.have(0);
        due("what it asks was had", x.worthAt(1, 0, 0), 9);
        x.have(1);
        due("it was had itself", x.worthAt(1, 0, 0), 9);
    }

    static void promise9YoungAtAskAndLater() {
        AgesByMiles x = with("ty09,50;ty01,0;ty098,998;ty00,5;");
        due("ahead of ASK", x.worthAt(0, 49, 0), 9);
        due("at ASK", x.worthAt(0, 50, 0), 9);
        due("later: half, cut", x.worthAt(0, 51, 0), 4);
        due("no less later on", x.worthAt(0, 999, 0), 4);
        due("ASK 0 at 0", x.worthAt(1, 0, 0), 1);
        due("ASK 0 at 1: half of 1, cut", x.worthAt(1, 1, 0), 0);
        due("ASK 998", x.worthAt(2, 998, 0), 98);
        due("ASK 998, at 999", x.worthAt(2, 999, 0), 49);
        due("WORTH 0", x.worthAt(3, 6, 0), 0);
    }

    static void promise9YoungOfAsk999() {
        AgesByMiles x = with("ty09,999;");
        due("at 999", x.worthAt(0, 999, 0), 9);
    }

    static void promise9GrownOneAheadOfGrownAndFromItOn() {
        AgesByMiles x = with("tg09,0;");
        int[] grownAt = {0, 1, 100, 999};
        for (int grown : grownAt) {
            x.set(0, grown);
            if (grown > 0) {
                due("1 ahead of " + grown, x.worthAt(0, grown - 1, 0), 0);
                due("AGE 0", x.worthAt(0, 0, 0), 0);
            }
            due("at " + grown, x.worthAt(0, grown, 0), 9);
            due("at 999", x.worthAt(0, 999, 0), 9);
        }
    }

    static void promise9Late1MoreForEach50MilesAboveOld() {
        AgesByMiles x = with("tl09,0;");
        for (int age = 100; age <= 999; age++) {
            due("AGE " + age, x.worthAt(0, age, 0), age < 350 ? 9 : 9 + (age - 300) / 50);
        }
        x.set(1, 999);
        due("OLD 999", x.worthAt(0, 999, 0), 9);
        x.set(1, 949);
        due("OLD 949", x.worthAt(0, 999, 0), 10);
        x.set(1, 950);
        due("OLD 950", x.worthAt(0, 999, 0), 9);
    }

    static void promise9LateAheadOfGrownIs0() {
        AgesByMiles x = with("tl09,0;");
        x.set(0, 500);
        x.set(1, 0);
        due("1 ahead of GROWN", x.worthAt(0, 499, 0), 0);
        due("at GROWN", x.worthAt(0, 500, 0), 19);
    }

    static void promise9LateOfWorth0GetsNoMore() {
        AgesByMiles x = with("tl00,0;tl01,0;");
        due("WORTH 0", x.worthAt(0, 999, 0), 0);
        due("WORTH 1", x.worthAt(1, 999, 0), 14);
    }

    static void promise9LateOf0IsLeastAge() {
        AgesByMiles x = with("tl02,0;");
        x.set(0, 0);
        x.set(1, 0);
        due("AGE 0", x.worthAt(0, 0, 0), 2);
        due("AGE 49", x.worthAt(0, 49, 0), 2);
        due("AGE 50", x.worthAt(0, 50, 0), 3);
        due("AGE 999", x.worthAt(0, 999, 0), 21);
    }

    static void promise9WhereItIsAndWhatItHadIsNothing() {
        AgesByMiles x = with("w01,5;to18,0;ta08,0;");
        due("elsewhere", x.worthAt(0, 0, 0), 8);
        x.have(1);
        due("had already", x.worthAt(1, 0, 0), 8);
        due("nothing is had", x.count(8), 1);
    }

    // Promise 10: "Whether it MAY be had now: 1, 0. -1."

    static void promise10NoSuchThing() {
        AgesByMiles x = with("to01,0;to02,0;");
        int[] nobodies = {-1, 2, 7, Integer.MIN_VALUE, Integer.MAX_VALUE};
        for (int i = 0; i < nobodies.length; i++) {
            due("may(" + nobodies[i] + ")", x.may(nobodies[i]), -1);
            due("refused", x.count(11), i + 1);
        }
        due("the last", x.may(1), 1);
    }

    static void promise10OnceAndThoseUnderItOnce() {
        for (char kind : "oygl".toCharArray()) {
            AgesByMiles x = with("t" + kind + "08,50;");
            due(kind + " once", x.may(0), 1);
            x.have(0);
            due(kind + " again", x.may(0), 0);
        }
    }

    static void promise10OnceForAWorthOf0() {
        AgesByMiles x = with("to00,0;tg09,0;tl09,0;ty00,0;");
        for (int thing = 0; thing < 4; thing++) {
            due("may(" + thing + ")", x.may(thing), 1);
        }
    }

    static void promise10AgainWhileItsWorthIsAbove0() {
        AgesByMiles x = with("ta03,0;ta00,0;");
        due("3", x.may(0), 1);
        x.have(0);
        due("1", x.may(0), 1);
        x.have(0);
        due("0", x.may(0), 0);
        due("0 from the first", x.may(1), 0);
        x.nextLife();
        due("in the NEXT LIFE", x.may(0), 1);
    }

    static void promise10BehindWhatItAsks() {
        AgesByMiles x = with("w01,5;to01,0;tb18,0;");
        x.go(1);
        due("ahead of it", x.may(1), 0);
        x.go(0);
        x.have(0);
        due("elsewhere", x.may(1), 0);
        x.go(1);
        due("behind it", x.may(1), 1);
        x.have(1);
        due("had", x.may(1), 0);
    }

    static void promise10AtItsPlaceAlone() {
        AgesByMiles x = with("w01,5;to08,0;to18,0;");
        due("here", x.may(0), 1);
        due("elsewhere", x.may(1), 0);
        x.go(1);
        due("here", x.may(1), 1);
        due("elsewhere", x.may(0), 0);
        due("nothing is counted", x.count(13), 0);
    }

    // Promise 11: "Of the LIFE at hand: 0 its PLACE .. 4 1 OLD. -2."

    static void promise11OtherWhat() {
        AgesByMiles x = new AgesByMiles();
        int[] others = {-1, 5, Integer.MIN_VALUE, Integer.MAX_VALUE};
        for (int i = 0; i < others.length; i++) {
            due("life(" + others[i] + ")", x.life(others[i]), -2);
            due("refused", x.count(12), i + 1);
        }
    }

    static void promise11GrownAtGrownOrMore() {
        AgesByMiles x = with("w01,100;");
        due("AGE 0", x.life(3), 0);
        x.set(0, 0);
        due("AGE 0, GROWN 0", x.life(3), 1);
        x.go(1);
        for (int grown : new int[] {1, 99, 100, 101, 999}) {
            x.set(0, grown);
            due("AGE 100, GROWN " + grown, x.life(3), grown <= 100 ? 1 : 0);
        }
    }

    static void promise11OldAtOldOrMore() {
        AgesByMiles x = with("w01,100;");
        due("AGE 0", x.life(4), 0);
        x.set(1, 0);
        due("AGE 0, OLD 0", x.life(4), 1);
        x.go(1);
        for (int old : new int[] {1, 99, 100, 101, 999}) {
            x.set(1, old);
            due("AGE 100, OLD " + old, x.life(4), old <= 100 ? 1 : 0);
        }
        x.set(0, 200);
        x.set(1, 100);
        due("OLD, but not GROWN", x.life(3), 0);
        due("OLD ahead of GROWN", x.life(4), 1);
    }

    // Promise 12: "NEXT LIFE: WORTH of the one ahead."

    static void promise12WithNothingHad() {
        AgesByMiles x = new AgesByMiles();
        due("0", x.nextLife(), 0);
        due("0 again", x.nextLife(), 0);
    }

    static void promise12WorthOfTheOneAhead() {
        AgesByMiles x = with("ta099,0;ta050,0;");
        for (int i = 0; i < 7; i++) {
            x.have(0);
            x.have(1);
        }
        due("all", x.nextLife(), 99 + 49 + 24 + 12 + 6 + 3 + 1 + 50 + 25 + 12 + 6 + 3 + 1);
        due("none", x.nextLife(), 0);
    }

    static void promise12AsAtFirstAgain() {
        AgesByMiles x = with("w01,50;to03,0;ta04,0;to15,0;");
        x.have(0);
        x.have(1);
        x.go(1);
        x.have(2);
        due("WORTH", x.nextLife(), 12);
        due("PLACE", x.life(0), 0);
        due("AGE", x.life(1), 0);
        due("WORTH", x.life(2), 0);
        due("had, in all", x.count(8), 0);
        for (int thing = 0; thing < 3; thing++) {
            due("had", x.thing(thing, 4), 0);
        }
        due("ONCE once more", x.have(0), 3);
        due("AGAIN from its whole WORTH", x.have(1), 4);
    }

    static void promise12AtHome() {
        AgesByMiles x = with("n8;");
        x.set(3, 7);
        due("not yet", x.life(0), 0);
        x.nextLife();
        due("HOME then", x.life(0), 7);
    }

    static void promise12BeyondEndIsLeftBehind() {
        AgesByMiles x = with("w01,50;");
        x.go(1);
        x.set(2, 49);
        due("beyond END", x.go(1), -3);
        x.nextLife();
        due("END holds for the next, too", x.go(1), -3);
        due("at AGE 0", x.go(0), 0);
    }

    // Promise 13: "The ORDER becomes n PLACES (0 .. 8), told as digits, the lowest first: how many it had. -4; -6 8;
    // -1 places below 0, one that there is not."

    static void promise13From0To8() {
        AgesByMiles x = new AgesByMiles();
        int had = 0;
        for (int n = 0; n <= 8; n++) {
            due("order(" + n + ")", x.order(n, 12301230L), had);
            due("PLACES in it", x.count(4), n);
            had = n;
        }
        due("back to 0", x.order(0, 0), 8);
        due("none", x.count(4), 0);
    }

    static void promise13Below0() {
        AgesByMiles x = new AgesByMiles();
        x.order(2, 10);
        due("n -1", x.order(-1, 0), -4);
        due("n far below", x.order(Integer.MIN_VALUE, 0), -4);
        due("PLACES below, too", x.order(-1, -1), -4);
        due("refused", x.count(14), 3);
        due("it stays", x.count(4), 2);
    }

    static void promise13Above8() {
        AgesByMiles x = new AgesByMiles();
        x.order(2, 10);
        due("n 9", x.order(9, 0), -6);
        due("n far above", x.order(Integer.MAX_VALUE, 0), -6);
        due("PLACES below, too", x.order(9, -1), -6);
        due("one that there is not, too", x.order(9, 4), -6);
        due("refused", x.count(16), 4);
        due("it stays", x.count(4), 2);
    }

    static void promise13PlacesBelow0() {
        AgesByMiles x = new AgesByMiles();
        for (int n = 0; n <= 8; n++) {
            due("-1, n " + n, x.order(n, -1), -1);
            due("least, n " + n, x.order(n, Long.MIN_VALUE), -1);
            due("-10, n " + n, x.order(n, -10), -1);
        }
        due("refused", x.count(11), 27);
    }

    static void promise13OneThatThereIsNot() {
        for (int places = 2; places <= 8; places++) {
            AgesByMiles x = with("n" + places + ";");
            long unit = 1;
            for (int i = 0; i < 8; i++) {
                due("the last as digit " + i, x.order(8, unit * (places - 1)), i == 0 ? 0 : 8);
                due("beyond the last as digit " + i, x.order(8, unit * places), -1);
                due("9 as digit " + i, x.order(8, unit * 9), -1);
                unit *= 10;
            }
            due("refused", x.count(11), 16);
            due("it stays", x.count(4), 8);
        }
    }

    static void promise13OnlyNDigitsAreTold() {
        AgesByMiles x = new AgesByMiles();
        for (int n = 0; n <= 8; n++) {
            long above = 9;
            for (int i = 0; i < n; i++) {
                above *= 10;
            }
            due("a 9 behind the n-th", x.order(n, above), Math.max(0, n - 1));
        }
        due("the greatest long", x.order(0, Long.MAX_VALUE), 8);
        due("its digits", with("n8;").order(1, Long.MAX_VALUE), 0);
    }

    static void promise13Places0() {
        AgesByMiles x = new AgesByMiles();
        due("all of them 0", x.order(8, 0), 0);
        due("8 of them", x.together(0, 0), 8);
    }

    static void promise13LowestFirst() {
        AgesByMiles x = with("w01,10;w12,100;");
        x.order(3, 210);
        due("0, 1, 2", x.lived(2, 1), 110);
        x.order(3, 12);
        due("2, 1, 0", x.lived(2, 1), 220);
    }

    static void promise13AnotherOrderTakesItsPlace() {
        AgesByMiles x = with("w01,10;w12,100;");
        x.order(3, 212);
        x.order(1, 1);
        due("1 alone", x.lived(2, 1), 10);
        x.order(0, 0);
        due("none", x.lived(2, 1), 0);
    }

    // Promise 14: "LIVED: WORTH (what 0), AGE (1). -2 either."

    static void promise14OtherKind() {
        AgesByMiles x = new AgesByMiles();
        int[] others = {-1, 4, Integer.MIN_VALUE, Integer.MAX_VALUE};
        for (int i = 0; i < others.length; i++) {
            due("kind " + others[i], x.lived(others[i], 0), -2);
            due("refused", x.count(12), i + 1);
        }
        for (int kind = 0; kind < 4; kind++) {
            due("kind " + kind, x.lived(kind, 0), 0);
        }
    }

    static void promise14OtherWhat() {
        AgesByMiles x = new AgesByMiles();
        int[] others = {-1, 2, Integer.MIN_VALUE, Integer.MAX_VALUE};
        for (int i = 0; i < others.length; i++) {
            due("what " + others[i], x.lived(0, others[i]), -2);
            due("refused", x.count(12), i + 1);
        }
        due("both", x.lived(4, 2), -2);
        due("counted once", x.count(12), 5);
    }

    private static void lived(AgesByMiles x, int kind, int worth, int age) {
        due("WORTH of kind " + kind, x.lived(kind, 0), worth);
        due("AGE of kind " + kind, x.lived(kind, 1), age);
    }

    static void promise14WithoutThings() {
        AgesByMiles x = with("w01,5;w12,5;");
        x.order(2, 21);
        lived(x, 0, 0, 0);
        lived(x, 1, 0, 0);
        lived(x, 2, 0, 10);
        lived(x, 3, 0, 0);
    }

    static void promise14FreshWithNothingHad() {
        AgesByMiles x = with("w01,5;to03,0;to14,0;");
        x.have(0);
        x.go(1);
        x.have(1);
        lived(x, 0, 7, 5);
        lived(x, 3, 3, 0);
        due("the LIFE at hand stays", x.life(2), 7);
        due("its PLACE", x.life(0), 1);
    }

    static void promise14FromHome() {
        AgesByMiles x = with("w01,5;to03,0;to14,0;");
        x.set(3, 1);
        lived(x, 3, 4, 0);
        lived(x, 0, 7, 5);
        due("the LIFE at hand stays", x.life(0), 0);
    }

    static void promise14ByNumbers() {
        AgesByMiles behind = with("to03,0;tb04,0;tb05,1;");
        lived(behind, 3, 12, 0);
    }

    static void promise14EachOnceWhereItIs() {
        AgesByMiles x = with("w01,5;ta09,0;ta03,0;");
        lived(x, 3, 12, 0);
        x.order(1, 0);
        lived(x, 2, 12 + 4 + 1, 0);
        x.order(2, 0);
        lived(x, 2, 12 + 5 + 2, 0);
        x.order(8, 0);
        lived(x, 2, 9 + 4 + 2 + 1 + 3 + 1, 0);
    }

    static void promise14WorthAbove0Alone() {
        AgesByMiles x = with("w01,50;to00,0;tb05,0;tg07,0;");
        lived(x, 3, 0, 0);
        x.order(2, 10);
        lived(x, 2, 0, 50);
        x.order(3, 10);
        lived(x, 2, 7, 100);
        x.set(0, 101);
        lived(x, 2, 0, 100);
    }

    static void promise14NearestOfSeveral() {
        AgesByMiles x = with("n5;w01,11;w02,10;w03,10;w04,12;to12,0;to23,0;to34,0;to45,0;");
        x.set(2, 10);
        lived(x, 0, 3, 10);
        x.set(2, 11);
        lived(x, 0, 3, 10);
        x.set(2, 30);
        lived(x, 0, 7, 30);
        AgesByMiles nearer = with("w01,11;w02,10;to12,0;to23,0;");
        nearer.set(2, 11);
        lived(nearer, 0, 3, 10);
    }

    static void promise14FarthestOfSeveral() {
        AgesByMiles x = with("n5;w01,11;w02,12;w03,12;w04,10;to12,0;to23,0;to34,0;to45,0;");
        x.set(2, 12);
        lived(x, 1, 3, 12);
        x.set(2, 11);
        lived(x, 1, 2, 11);
        x.set(2, 10);
        lived(x, 1, 5, 10);
        x.set(2, 36);
        lived(x, 1, 7, 36);
    }

    static void promise14ThePlace0OfSeveral() {
        AgesByMiles near = with("w10,5;w12,6;w13,5;to02,0;to23,0;to34,0;");
        near.set(3, 1);
        near.set(2, 6);
        lived(near, 0, 2, 5);
        AgesByMiles far = with("w10,6;w12,5;w13,6;to02,0;to23,0;to34,0;");
        far.set(3, 1);
        far.set(2, 6);
        lived(far, 1, 2, 6);
    }

    static void promise14ThePlace7AndAllSevenThings() {
        AgesByMiles x = with("n8;w70,1;w71,2;w72,4;w73,8;w74,16;w75,32;", "to01,0;to12,0;to24,0;to38,0;to416,0;",
            "to532,0;to764,0;");
        x.set(3, 7);
        x.set(2, 999);
        lived(x, 0, 127, 2 * (1 + 2 + 4 + 8 + 16) + 32);
        lived(x, 1, 127, 2 * (32 + 16 + 8 + 4 + 2) + 1);
        lived(x, 3, 64, 0);
        x.order(8, 77543210L);
        lived(x, 2, 127, 1 + 3 + 6 + 12 + 24 + 48 + 32);
    }

    static void promise14WithinEnd() {
        AgesByMiles x = with("w01,50;w12,50;to13,0;to24,0;");
        for (int kind = 0; kind < 2; kind++) {
            x.set(2, 49);
            lived(x, kind, 0, 0);
            x.set(2, 50);
            lived(x, kind, 3, 50);
            x.set(2, 99);
            lived(x, kind, 3, 50);
        }
        x.set(2, 100);
        lived(x, 0, 7, 100);
        lived(x, 1, 4, 100);
        x.set(2, 149);
        lived(x, 1, 4, 100);
        x.set(2, 150);
        lived(x, 1, 7, 150);
    }

    static void promise14FarTakesTheFarthestWithinEnd() {
        AgesByMiles x = with("w01,50;w02,60;to13,0;to24,0;");
        x.set(2, 59);
        lived(x, 1, 3, 50);
        x.set(2, 60);
        lived(x, 1, 4, 60);
    }

    static void promise14NotToBeComeTo() {
        AgesByMiles x = with("w01,5;to23,0;to39,0;to11,0;");
        lived(x, 0, 1, 5);
        lived(x, 1, 1, 5);
        x.order(3, 231);
        lived(x, 2, 1, 5);
    }

    static void promise14OfOtherPlaces() {
        AgesByMiles x = with("w01,5;ta09,0;");
        lived(x, 0, 9, 0);
        lived(x, 1, 9, 0);
    }

    static void promise14BackForWhatMayBeHadAgain() {
        AgesByMiles x = with("w01,5;ta03,0;ta13,0;");
        lived(x, 0, 3 + 3 + 1 + 1, 15);
        lived(x, 1, 3 + 3 + 1 + 1, 15);
    }

    static void promise14WorthMoreThan0AtTheAgeThatItWouldHave() {
        AgesByMiles grown = with("w01,99;tg15,0;");
        lived(grown, 0, 0, 0);
        grown.set(0, 99);
        lived(grown, 0, 5, 99);
        lived(grown, 1, 5, 99);
        AgesByMiles young = with("w01,9;ty11,8;");
        lived(young, 0, 0, 0);
        lived(young, 1, 0, 0);
        AgesByMiles still = with("w01,9;ty11,9;");
        lived(still, 0, 1, 9);
        AgesByMiles nothing = with("w01,9;to10,0;");
        lived(nothing, 0, 0, 0);
        lived(nothing, 1, 0, 0);
    }

    static void promise14BehindMayBeHadThere() {
        AgesByMiles x = with("w01,9;w02,5;to13,0;tb24,0;");
        lived(x, 0, 7, 9 + 14);
        AgesByMiles never = with("w01,9;to10,0;tb14,0;");
        lived(never, 0, 0, 0);
        AgesByMiles there = with("w01,9;to13,0;tb14,0;");
        lived(there, 0, 7, 9);
    }

    static void promise14RoundPlacesOfTheOrderOnceThrough() {
        AgesByMiles x = with("n8;w01,1;w02,2;w03,4;w04,8;w05,16;w06,32;w07,64;");
        x.set(2, 999);
        x.order(8, 76543210L);
        lived(x, 2, 0, 2 * (1 + 2 + 4 + 8 + 16 + 32) + 64);
        x.order(8, 1010101L);
        lived(x, 2, 0, 8);
    }

    static void promise14RoundLeavesOutWhatIsBeyondEnd() {
        AgesByMiles x = with("w01,50;w02,60;to13,0;to24,0;");
        x.order(2, 12);
        x.set(2, 59);
        lived(x, 2, 3, 50);
        x.set(2, 60);
        lived(x, 2, 4, 60);
        x.set(2, 169);
        lived(x, 2, 4, 60);
        x.set(2, 170);
        lived(x, 2, 7, 170);
    }

    static void promise14RoundGoesWhereItIsToo() {
        AgesByMiles x = with("w01,50;ta08,0;");
        x.order(1, 0);
        lived(x, 2, 12, 0);
        x.set(2, 50);
        x.order(3, 11);
        lived(x, 2, 8, 50);
    }

    static void promise14SitStays() {
        AgesByMiles x = with("w01,1;to05,0;to19,0;ta03,0;");
        x.order(3, 101);
        lived(x, 3, 8, 0);
    }
}

/**
 * Each sentence about promises 27 to 31 (row, judge, image, on, count) that names a boundary case has a test of its
 * own here.
 */
public final class RowAndImageBoundsTest extends Checks {
    public static void main(String[] args) {
        runAll(RowAndImageBoundsTest.class);
    }

    // Promise 27: "A byte (0 .. 9) more of the ROW: how many. -4; -6 (9; 10, too)."

    static void promise27BelowTheLeast() {
        AgesByMiles x = new AgesByMiles();
        due("-1", x.row(-1), -4);
        due("far below", x.row(Integer.MIN_VALUE), -4);
        due("refused", x.count(14), 2);
        due("0", x.row(0), 1);
    }

    static void promise27AboveTheGreatest() {
        AgesByMiles x = new AgesByMiles();
        due("10", x.row(10), -6);
        due("far above", x.row(Integer.MAX_VALUE), -6);
        due("refused", x.count(16), 2);
        due("9", x.row(9), 1);
    }

    static void promise27TenAtMost() {
        AgesByMiles x = new AgesByMiles();
        for (int i = 1; i <= 10; i++) {
            due("one more", x.row(i - 1), i);
        }
        due("an eleventh", x.row(0), -6);
        due("an eleventh above", x.row(10), -6);
        due("an eleventh below", x.row(-1), -4);
        due("bytes", x.count(6), 10);
        due("refused -6", x.count(16), 2);
        due("refused -4", x.count(14), 1);
        due("judge(0)", x.judge(0), 1);
        for (int i = 1; i <= 10; i++) {
            due("again", x.row(0), i);
        }
        due("an eleventh", x.row(0), -6);
    }

    static void promise27BytesThatAreNoPlaces() {
        AgesByMiles x = new AgesByMiles();
        due("4", x.row(4), 1);
        due("9", x.row(9), 2);
        due("nothing is counted", x.count(11), 0);
    }

    // Promise 28: "JUDGED (what 0), OLD ONE (1; up to the one JUDGED); -9 (whichever it answers, the ROW has none
    // then). -2 (it stays)."

    private static int judged(AgesByMiles x, int what, int... row) {
        for (int v : row) {
            x.row(v);
        }
        due("bytes", x.count(6), row.length);
        int answer = x.judge(what);
        due("none then", x.count(6), 0);
        return answer;
    }

    static void promise28OtherWhatTheRowStays() {
        AgesByMiles x = with("w01,5;");
        x.row(1);
        x.row(2);
        int[] others = {-1, 2, Integer.MIN_VALUE, Integer.MAX_VALUE};
        for (int i = 0; i < others.length; i++) {
            due("judge(" + others[i] + ")", x.judge(others[i]), -2);
            due("bytes stay", x.count(6), 2);
            due("refused", x.count(12), i + 1);
        }
        due("as they were", x.judge(0), 1);
    }

    static void promise28NoRow() {
        AgesByMiles x = new AgesByMiles();
        due("JUDGED", judged(x, 0), -9);
        due("OLD ONE", judged(x, 1), -9);
        x.set(1, 0);
        due("OLD from the first, OLD ONE", judged(x, 1), -9);
    }

    static void promise28NoneThenWhicheverItAnswers() {
        AgesByMiles x = with("w01,5;");
        due("JUDGED", judged(x, 0, 1, 2), 1);
        due("none JUDGED", judged(x, 0, 1, 0), -9);
        x.set(1, 5);
        due("OLD ONE", judged(x, 1, 0, 1), 1);
        due("no OLD ONE", judged(x, 1, 0, 0), -9);
        due("nothing of the rows ahead", judged(x, 0, 1), -9);
    }

    static void promise28NoPlace() {
        AgesByMiles x = with("n5;w01,1;w12,1;w23,1;w34,1;");
        due("the last PLACE", judged(x, 0, 4), -9);
        due("beyond it", judged(x, 0, 5), 0);
        due("9", judged(x, 0, 0, 4, 9), 2);
        due("the first of several", judged(x, 0, 1, 9, 9), 1);
        AgesByMiles all = with("n8;w07,1;");
        due("7", judged(all, 0, 7), -9);
        due("8", judged(all, 0, 7, 8), 1);
    }

    static void promise28CanNotBeComeTo() {
        AgesByMiles x = with("w01,1;w23,1;");
        due("2", judged(x, 0, 1, 0, 2, 3), 2);
        due("from HOME", judged(x, 0, 0), -9);
        x.set(3, 2);
        due("from another HOME", judged(x, 0, 0), 0);
        due("and its way", judged(x, 0, 3, 2, 2), -9);
    }

    static void promise28UpToEndAndBeyond() {
        AgesByMiles x = with("w01,100;");
        due("400", judged(x, 0, 1, 0, 1, 0), -9);
        due("where it is, at END", judged(x, 0, 1, 0, 1, 0, 0), -9);
        due("500", judged(x, 0, 1, 0, 1, 0, 1), 4);
        x.set(2, 399);
        due("beyond by 1", judged(x, 0, 1, 0, 1, 0), 3);
        x.set(2, 99);
        due("at the first", judged(x, 0, 1), 0);
        x.set(2, 100);
        due("up to END", judged(x, 0, 1), -9);
    }

    static void promise28AllTenBytes() {
        AgesByMiles x = with("w01,1;");
        due("none JUDGED", judged(x, 0, 1, 0, 1, 0, 1, 0, 1, 0, 1, 0), -9);
        due("the tenth", judged(x, 0, 1, 0, 1, 0, 1, 0, 1, 0, 1, 9), 9);
        x.set(1, 10);
        due("the tenth is the OLD ONE", judged(x, 1, 1, 0, 1, 0, 1, 0, 1, 0, 1, 0), 9);
        x.set(1, 11);
        due("no OLD ONE", judged(x, 1, 1, 0, 1, 0, 1, 0, 1, 0, 1, 0), -9);
    }

    static void promise28OldOneAtOldOrMore() {
        AgesByMiles x = with("w01,100;");
        due("300", judged(x, 1, 1, 0, 1, 0), 2);
        x.set(1, 299);
        due("more than OLD", judged(x, 1, 1, 0, 1, 0), 2);
        x.set(1, 301);
        due("less than OLD by 1", judged(x, 1, 1, 0, 1, 0), 3);
        x.set(1, 400);
        due("at END", judged(x, 1, 1, 0, 1, 0), 3);
        x.set(1, 401);
        due("none", judged(x, 1, 1, 0, 1, 0), -9);
        x.set(1, 0);
        due("from the first", judged(x, 1, 0), 0);
    }

    static void promise28OldOneUpToTheOneJudged() {
        AgesByMiles x = with("w01,100;");
        x.set(1, 200);
        due("ahead of the one JUDGED", judged(x, 1, 1, 0, 9), 1);
        due("only behind it", judged(x, 1, 1, 9, 0), -9);
        due("behind one not to be come to", judged(x, 1, 1, 2, 0), -9);
        due("JUDGED at the first", judged(x, 1, 9, 1, 0), -9);
        x.set(1, 0);
        due("JUDGED at the first, OLD at 0", judged(x, 1, 9), -9);
    }

    static void promise28TheLifeAtHandIsNothingToIt() {
        AgesByMiles x = with("w01,100;");
        x.set(2, 500);
        x.go(1);
        x.go(0);
        x.go(1);
        due("from HOME at AGE 0", judged(x, 0, 1, 0, 1, 0, 1), -9);
        due("OLD ONE", judged(x, 1, 1, 0, 1, 0, 1), 2);
        due("it stays", x.life(1), 300);
    }

    // Promise 29: "THE IMAGE is taken: how many PLACES." Promise 30: "ON from it: how many PLACES. -3 there is none."

    static void promise29HowManyPlaces() {
        for (int places = 2; places <= 8; places++) {
            AgesByMiles x = with("n" + places + ";");
            due("image()", x.image(), places);
            due("on()", x.on(), places);
        }
    }

    static void promise29AnotherImageTakesItsPlace() {
        AgesByMiles x = new AgesByMiles();
        x.image();
        tell(x, "n5;");
        due("image()", x.image(), 5);
        tell(x, "n8;");
        due("on()", x.on(), 5);
        due("PLACES", x.count(0), 5);
    }

    static void promise29ChangesNothing() {
        AgesByMiles x = with("w01,5;to05,0;");
        x.have(0);
        x.go(1);
        x.row(1);
        x.feed(1, 'n');
        x.image();
        due("PLACE", x.life(0), 1);
        due("AGE", x.life(1), 5);
        due("WORTH", x.life(2), 5);
        due("ROW", x.count(6), 1);
        due("TAPE", x.count(7), 1);
    }

    static void promise30ThereIsNone() {
        AgesByMiles x = with("n5;");
        due("on()", x.on(), -3);
        due("on()", x.on(), -3);
        due("refused", x.count(13), 2);
        due("PLACES", x.count(0), 5);
        x.image();
        due("on()", x.on(), 5);
        due("refused", x.count(13), 2);
    }

    static void promise30AsOftenAsWanted() {
        AgesByMiles x = with("w01,5;");
        x.image();
        for (int i = 1; i <= 3; i++) {
            due("go(1)", x.go(1), 5);
            tell(x, "n8;to00,0;");
            due("on()", x.on(), 4);
            due("AGE", x.life(1), 0);
            due("THINGS", x.count(2), 0);
        }
    }

    static void promise30ImageOfANewObject() {
        AgesByMiles x = new AgesByMiles();
        x.image();
        tell(x, "n8;w67,5;to71,0;");
        x.set(0, 1);
        x.set(1, 2);
        x.set(2, 3);
        x.set(3, 7);
        x.order(2, 76);
        x.call(7, 9, 99);
        x.person(7, 9);
        x.nextLife();
        x.have(0);
        due("on()", x.on(), 4);
        for (int what = 0; what <= 8; what++) {
            due("count(" + what + ")", x.count(what), what == 0 ? 4 : 0);
        }
        due("PLACE", x.life(0), 0);
        due("WORTH", x.life(2), 0);
        due("GROWN", x.set(0, 0), 100);
        due("OLD", x.set(1, 0), 300);
        due("END", x.set(2, 1), 400);
        due("HOME", x.set(3, 1), 0);
        due("more PLACES again", tell(x, "n8;"), 1);
        due("FAR", x.far(6, 7), -9);
        due("WEIGHT", x.call(7, 0, 0), 0);
    }

    static void promise30TheRowIsNotInIt() {
        AgesByMiles x = with("w01,5;");
        x.row(1);
        x.image();
        x.row(2);
        x.on();
        due("bytes", x.count(6), 2);
        due("JUDGED", x.judge(0), 1);
        x.on();
        due("bytes", x.count(6), 0);
    }

    static void promise30LettersAreNotInIt() {
        AgesByMiles x = new AgesByMiles();
        x.feed(1, 'n');
        x.image();
        x.feed(1, '6');
        x.on();
        due("bytes", x.count(7), 2);
        x.feed(1, ';');
        due("land()", x.land(), 1);
        x.on();
        due("bytes", x.count(7), 0);
        due("PLACES", x.count(0), 4);
    }

    static void promise30RefusalsAreNotInIt() {
        AgesByMiles x = new AgesByMiles();
        x.go(9);
        x.image();
        x.go(9);
        x.life(9);
        x.on();
        due("-1", x.count(11), 2);
        due("-2", x.count(12), 1);
    }

    static void promise30TheLandIsInIt() {
        AgesByMiles x = with("w01,50;to03,0;");
        x.image();
        tell(x, "n8;w02,5;w12,6;w27,1;ta04,0;");
        due("FAR", x.far(0, 1), 11);
        x.on();
        due("FAR as then", x.far(0, 1), 50);
        due("none as then", x.far(0, 2), -9);
        due("no such PLACE as then", x.far(0, 7), -1);
        due("WAYS", x.count(1), 1);
        due("THINGS", x.count(2), 1);
        due("a WAY more", tell(x, "w02,9;"), 1);
        due("FAR by both", x.far(1, 2), 59);
        due("a THING more", tell(x, "tb08,0;"), 1);
        due("its KIND", x.thing(1, 0), 2);
    }

    static void promise30AllSevenThingsAreInIt() {
        AgesByMiles x = with("to01,0;ta02,0;ty03,0;tg04,0;tl05,0;to06,0;tb07,5;");
        x.image();
        tell(x, "n8;");
        x.on();
        for (int thing = 0; thing < 7; thing++) {
            due("WORTH", x.thing(thing, 2), thing + 1);
        }
        due("BEST", x.best(-1), 1 + 2 + 3 + 0 + 0 + 6 + 7);
    }

    static void promise30ThePaysAreInIt() {
        AgesByMiles x = new AgesByMiles();
        x.call(0, 1, 7);
        x.image();
        x.call(0, 1, 8);
        x.on();
        due("PAY", x.calls(0, 1, 0), 7);
        due("PAY and WEIGHT", x.call(0, 0, 0), 1);
    }

    static void promise30ThePeopleAreInIt() {
        AgesByMiles x = with("w01,5;");
        x.person(0, 300);
        x.image();
        x.person(1, 0);
        x.on();
        due("one of them", x.count(3), 1);
        due("who", x.send(1, 0), 0);
        due("for how much", x.send(1, 1), 10);
        due("another second one", x.person(1, 300), 2);
        due("for nothing", x.send(1, 0), 1);
        x.on();
        due("none of them", x.send(1, 0), 0);
        // Read into another LAND and back: miles gone are as then.
        tell(x, "n8;");
        x.image();
        AgesByMiles y = with("w01,5;");
        y.image();
        y.person(0, 0);
        tell(y, "n8;");
        y.on();
        y.person(0, 300);
        tell(y, "n7;");
        y.image();
        tell(y, "n6;");
        y.on();
        due("PRICE of a mile by the miles gone", y.send(1, 1), 10);
        x.on();
        due("PRICE of a mile behind a LAND", x.send(1, 1), 10);
    }

    static void promise30TheOrderIsInIt() {
        AgesByMiles x = with("w01,5;");
        x.order(3, 101);
        x.image();
        x.order(8, 0);
        x.on();
        due("PLACES in it", x.count(4), 3);
        due("they", x.lived(2, 1), 15);
    }

    static void promise30TheLifeAtHandIsInIt() {
        AgesByMiles x = with("w01,5;to03,0;ta19,0;");
        x.have(0);
        x.go(1);
        x.have(1);
        x.image();
        x.have(1);
        x.nextLife();
        x.on();
        due("PLACE", x.life(0), 1);
        due("AGE", x.life(1), 5);
        due("WORTH", x.life(2), 12);
        due("had", x.thing(0, 4) * 10 + x.thing(1, 4), 11);
        due("AGAIN, the second time", x.have(1), 4);
        due("ONCE", x.may(0), 0);
    }

    static void promise30AFaultBehindItIsNothingToIt() {
        AgesByMiles x = with("to01,0;");
        x.image();
        due("land()", tell(x, "ta02,0;n9;"), -2007);
        due("on()", x.on(), 4);
        due("its THING", x.thing(0, 0), 0);
        due("land()", tell(x, "ta02,0;"), 1);
        x.on();
        due("THINGS", x.count(2), 1);
    }

    // Promise 31: "0 PLACES .. 8 THINGS had by the LIFE at hand (each time), 11 .. 16 REFUSALS -1 .. -6. -9 for
    // another what."

    static void promise31AnotherWhat() {
        AgesByMiles x = new AgesByMiles();
        for (int what : new int[] {-1, 9, 10, 17, 18, 100, Integer.MIN_VALUE, Integer.MAX_VALUE}) {
            due("count(" + what + ")", x.count(what), -9);
        }
        for (int what = 11; what <= 16; what++) {
            due("nothing is counted", x.count(what), 0);
        }
    }

    static void promise31EachWhenEmpty() {
        AgesByMiles x = new AgesByMiles();
        for (int what = 0; what <= 16; what++) {
            due("count(" + what + ")", x.count(what), what == 0 ? 4 : what == 9 || what == 10 ? -9 : 0);
        }
    }

    static void promise31EachWhenFull() {
        AgesByMiles x = with("n8;w01,1;w02,1;w03,1;w04,1;w05,1;w06,1;w07,1;", "w12,1;w13,1;w14,1;w15,1;w16,1;w17,1;w23,1;",
            "ta099,0;ta099,0;ta099,0;ta099,0;", "ta099,0;ta099,0;ta099,0;");
        for (int i = 0; i < 8; i++) {
            x.call(i, 9, 99);
            x.feed(8, 0);
        }
        for (int i = 0; i < 4; i++) {
            x.person(7, 999);
        }
        for (int i = 0; i < 10; i++) {
            x.row(9);
        }
        for (int thing = 0; thing < 7; thing++) {
            for (int i = 0; i < 7; i++) {
                x.have(thing);
            }
        }
        x.order(8, 77777777L);
        int[] full = {8, 14, 7, 4, 8, 72, 10, 64, 49};
        for (int what = 0; what < full.length; what++) {
            due("count(" + what + ")", x.count(what), full[what]);
        }
    }

    static void promise31HadEachTime() {
        AgesByMiles x = with("ta07,0;to00,0;");
        x.have(0);
        x.have(0);
        x.have(1);
        due("had", x.count(8), 3);
        x.have(1);
        due("not when refused", x.count(8), 3);
        x.nextLife();
        due("in the NEXT LIFE", x.count(8), 0);
    }

    static void promise31EachRefusalByItself() {
        AgesByMiles x = new AgesByMiles();
        for (int i = 0; i < 6; i++) {
            x.go(-1);
        }
        for (int i = 0; i < 5; i++) {
            x.life(-1);
        }
        for (int i = 0; i < 4; i++) {
            x.go(1);
        }
        for (int i = 0; i < 3; i++) {
            x.row(-1);
        }
        x.row(10);
        x.row(10);
        int[] counts = {6, 5, 4, 3, 0, 2};
        for (int i = 0; i < counts.length; i++) {
            due("REFUSALS " + (-1 - i), x.count(11 + i), counts[i]);
        }
    }

    static void promise31RefusalsOfLongsCountToo() {
        AgesByMiles x = new AgesByMiles();
        x.calls(0, 0, 2);
        x.calls(-1, 0, 0);
        x.many(-1, 0, 1, 0);
        x.many(1000, 0, 1, 0);
        x.calls(0, 7, 0);
        x.calls(1000, 0, 0);
        due("-2", x.count(12), 1);
        due("-4", x.count(14), 2);
        due("-6", x.count(16), 3);
    }

    static void promise31UpToThe512thCall() {
        AgesByMiles x = new AgesByMiles();
        for (int i = 0; i < 511; i++) {
            x.go(-1);
        }
        due("the 512th call", x.count(11), 511);
    }

    static void promise31AnswersOfMinus9AreNoRefusals() {
        AgesByMiles x = new AgesByMiles();
        due("far", x.far(0, 1), -9);
        due("best", x.best(0), -9);
        due("child", x.child(0, 0, 1), -9);
        due("send", x.send(0, 0), -9);
        due("judge", x.judge(0), -9);
        due("count", x.count(9), -9);
        for (int what = 11; what <= 16; what++) {
            due("count(" + what + ")", x.count(what), 0);
        }
    }
}

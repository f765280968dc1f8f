// A test for each promise: ordinary inputs, the edges that the document names, and wrong inputs in their order.
public final class PromisesTest extends Checks {
    public static void main(String[] args) {
        runAll(PromisesTest.class);
    }

    static void promise1NewObject() {
        AgesByMiles x = new AgesByMiles();
        for (int what = 0; what <= 16; what++) {
            int want = what == 0 ? 4 : what == 9 || what == 10 ? -9 : 0;
            due("new: count(" + what + ")", x.count(what), want);
        }
        due("new: far(0, 1)", x.far(0, 1), -9);
        due("new: far(3, 3)", x.far(3, 3), 0);
        due("new: life(0)", x.life(0), 0);
        due("new: life(1)", x.life(1), 0);
        due("new: life(2)", x.life(2), 0);
        due("new: GROWN", x.set(0, 100), 100);
        due("new: OLD", x.set(1, 300), 300);
        due("new: END", x.set(2, 400), 400);
        due("new: HOME", x.set(3, 0), 0);
    }

    static void promise2Feed() {
        AgesByMiles x = new AgesByMiles();
        due("feed(0)", x.feed(0, 0), -4);
        due("feed(least)", x.feed(Integer.MIN_VALUE, 0), -4);
        due("feed(9)", x.feed(9, 0), -6);
        due("feed(most)", x.feed(Integer.MAX_VALUE, 0), -6);
        for (int i = 1; i <= 7; i++) {
            due("feed(8) " + i, x.feed(8, -1L), 8 * i);
        }
        due("feed(7)", x.feed(7, 0), 63);
        due("feed(2) above 64", x.feed(2, 0), -6);
        due("nothing came", x.count(7), 63);
        due("feed(1) up to 64", x.feed(1, 0), 64);
        due("feed(1) above 64", x.feed(1, 0), -6);
        due("refused -4", x.count(14), 2);
        due("refused -6", x.count(16), 4);
        AgesByMiles y = new AgesByMiles();
        // 'n' is lowest; what stands above the n-th byte does not come.
        due("feed('n')", y.feed(1, 0x7f00L | 'n'), 1);
        due("feed('6', ';')", y.feed(2, '6' | (long) ';' << 8 | 255L << 16), 3);
        due("n6;", y.land(), 1);
        due("six", y.count(0), 6);
    }

    private static void fault(String text, int want) {
        AgesByMiles x = new AgesByMiles();
        due("'" + text + "'", tell(x, text), want);
        due("'" + text + "': tape", x.count(7), 0);
        due("'" + text + "': places", x.count(0), 4);
        for (int what = 11; what <= 16; what++) {
            due("'" + text + "': nothing is counted", x.count(what), 0);
        }
    }

    static void promise3LandBytes() {
        fault("", -1000);
        fault("x", -1000);
        fault("N4;", -1000);
        fault("n", -1001);
        fault("n;", -1001);
        fault("n4", -1002);
        fault("n04;", -1002);
        fault("n4;;", -1003);
        fault("n4; ", -1003);
        fault("w", -1001);
        fault("w0", -1002);
        fault("w01", -1003);
        fault("w01;", -1003);
        fault("w01,", -1004);
        fault("w01,;", -1004);
        fault("w01,1234;", -1007);
        fault("w01,-1;", -1004);
        fault("w01,12", -1006);
        fault("t", -1001);
        fault("to", -1002);
        fault("tn01,0;", -1001);
        fault("to0", -1003);
        fault("to0,0;", -1003);
        fault("to012", -1005);
        fault("to0123,0;", -1005);
        fault("to012,", -1006);
        fault("to012,;", -1006);
        fault("to012,1234;", -1009);
        fault("to012,123", -1009);
        fault("n4;" + (char) 0, -1003);
        fault("n4;" + (char) 255, -1003);
        // A wrong byte comes first even behind a statement that is not as it must be.
        fault("n9;w01,201;x", -1011);
        fault("n9;n", -1004);
        AgesByMiles full = new AgesByMiles();
        tape(full, "n4;n4;n4;n4;n4;n4;n4;n4;n4;n4;n4;n4;n4;n4;n4;n4;n4;n4;n4;n4;n4;n");
        due("64 bytes, the end lacks", full.land(), -1064);
    }

    static void promise3LandStatements() {
        fault("n0;", -2000);
        fault("n1;", -2000);
        fault("n9;", -2000);
        fault("n4;n9;n1;", -2003);
        fault("w00,5;", -2000);
        fault("w04,5;", -2000);
        fault("w40,5;", -2000);
        fault("w89,5;", -2000);
        fault("w01,0;", -2000);
        fault("w01,000;", -2000);
        fault("w01,201;", -2000);
        fault("w01,200;w01,200;", -2008);
        fault("w01,200;w10,1;", -2008);
        fault("w45,1;n6;", -2000);
        fault("to45,0;", -2000);
        fault("to95,0;", -2000);
        fault("tb05,0;", -2000);
        fault("to05,0;tb05,1;", -2007);
        fault("to05,0;tb05,999;", -2007);
        fault("to01,0;to01,0;to01,0;to01,0;to01,0;to01,0;to01,0;to01,0;", -2049);
        due("two things alike", tell(new AgesByMiles(), "to05,0;to05,0;"), 2);
        due("a b behind the one ahead", tell(new AgesByMiles(), "to05,0;tb05,0;tb05,1;"), 3);
        due("asks of others are free", tell(new AgesByMiles(), "to099,999;ta00,5;ty000,000;tg31,7;tl31,9;"), 5);
        due("numbers may begin with 0", tell(new AgesByMiles(), "w01,001;w02,01;w03,200;"), 3);
        due("n2;", tell(new AgesByMiles(), "n2;"), 1);
        AgesByMiles x = with("n8;w01,1;w02,1;w03,1;w04,1;w05,1;w06,1;w07,1;");
        due("14 ways", tell(x, "w12,1;w13,1;w14,1;w15,1;w16,1;w17,1;w23,1;"), 7);
        due("a 15th way", tell(x, "w24,1;"), -2000);
        due("ways", x.count(1), 14);
    }

    /** The text to be read behind the rest must not leave n places, but may leave n + 1. */
    private static void needs(AgesByMiles x, int n) {
        due("n" + n + "; is too few", tell(x, "n" + n + ";"), -2000);
        due("n" + (n + 1) + "; is enough", tell(x, "n" + (n + 1) + ";"), 1);
    }

    static void promise3LandPlacesToldOf() {
        needs(with("n8;w06,1;"), 6);
        needs(with("n8;w60,1;"), 6);
        needs(with("n8;to51,0;"), 5);
        AgesByMiles home = with("n8;");
        home.set(3, 4);
        needs(home, 4);
        AgesByMiles people = with("n8;");
        people.person(3, 0);
        needs(people, 3);
        AgesByMiles order = with("n8;");
        order.order(3, 61);
        needs(order, 6);
        order.order(1, 6);
        order.order(0, 0);
        due("the ORDER is none", tell(order, "n2;"), 1);
        AgesByMiles weight = with("n8;");
        weight.call(7, 0, 50);
        weight.call(5, 1, 0);
        needs(weight, 5);
        weight.call(5, 0, 9);
        due("no WEIGHT above 0", tell(weight, "n2;"), 1);
        AgesByMiles life = with("n8;w03,1;");
        tell(life, "n8;");
        life.go(3);
        needs(life, 3);
        AgesByMiles away = with("n8;");
        away.set(3, 6);
        away.nextLife();
        away.set(3, 0);
        needs(away, 6);
        away.nextLife();
        due("at home again", tell(away, "n2;"), 1);
        fault("n8;w67,1;n7;", -2009);
        fault("n8;to71,0;n7;", -2010);
    }

    static void promise3LandAllOrNothing() {
        AgesByMiles x = with("n5;w01,50;to110,0;");
        due("fault 2", tell(x, "n8;w02,9;to71,0;w02,9;"), -2016);
        due("places stay", x.count(0), 5);
        due("ways stay", x.count(1), 1);
        due("things stay", x.count(2), 1);
        due("far stays", x.far(0, 2), -9);
        due("fault 1", tell(x, "n8;w02,9;x"), -1009);
        due("places stay too", x.count(0), 5);
        due("comes", tell(x, "n8;w02,9;to71,0;"), 3);
        due("places", x.count(0), 8);
        due("ways", x.count(1), 2);
        due("things", x.count(2), 2);
        due("far", x.far(1, 2), 59);
        due("the tape is none", x.land(), -1000);
    }

    static void promise4Far() {
        AgesByMiles x = with("n8;w01,200;w12,200;w23,200;w34,200;w45,200;w56,200;w67,200;");
        due("far(0, 7)", x.far(0, 7), 1400);
        due("far(7, 0)", x.far(7, 0), 1400);
        due("far(5, 5)", x.far(5, 5), 0);
        due("far(8, 0)", x.far(8, 0), -1);
        due("far(0, 8)", x.far(0, 8), -1);
        due("far(-1, 0)", x.far(-1, 0), -1);
        due("far(0, least)", x.far(0, Integer.MIN_VALUE), -1);
        tell(x, "w07,100;");
        due("far(0, 7) shorter", x.far(0, 7), 100);
        due("far(0, 5) the other way", x.far(0, 5), 500);
        AgesByMiles y = with("w01,10;w23,10;");
        due("far none", y.far(1, 2), -9);
        due("far within", y.far(3, 2), 10);
        AgesByMiles z = with("w01,100;w12,50;w02,200;");
        due("two ways are shorter than one", z.far(0, 2), 150);
    }

    static void promise5Thing() {
        AgesByMiles x = with("to011,900;ta12,1;tb23,1;ty34,5;tg05,6;tl16,7;");
        for (int i = 0; i < 6; i++) {
            due("kind of " + i, x.thing(i, 0), i);
        }
        due("place", x.thing(2, 1), 2);
        due("worth", x.thing(0, 2), 11);
        due("ask", x.thing(0, 3), 900);
        due("had", x.thing(0, 4), 0);
        x.have(0);
        due("had then", x.thing(0, 4), 1);
        due("thing(6, 9)", x.thing(6, 9), -1);
        due("thing(-1, 0)", x.thing(-1, 0), -1);
        due("thing(0, 5)", x.thing(0, 5), -2);
        due("thing(0, -1)", x.thing(0, -1), -2);
    }

    static void promise6Set() {
        AgesByMiles x = with("n5;w01,50;to110,0;");
        due("set(-1, -1)", x.set(-1, -1), -2);
        due("set(4, 1000)", x.set(4, 1000), -2);
        due("set(3, 5)", x.set(3, 5), -1);
        due("set(3, -1)", x.set(3, -1), -1);
        due("set(3, 1000)", x.set(3, 1000), -1);
        due("set(0, -1)", x.set(0, -1), -4);
        due("set(1, -1)", x.set(1, -1), -4);
        due("set(2, 0)", x.set(2, 0), -4);
        for (int what = 0; what < 3; what++) {
            due("set(" + what + ", 1000)", x.set(what, 1000), -6);
            due("set(" + what + ", 999)", x.set(what, 999), what == 0 ? 100 : what == 1 ? 300 : 400);
            due("set(" + what + ", 1)", x.set(what, 1), 999);
        }
        due("set(0, 0)", x.set(0, 0), 1);
        due("set(1, 0)", x.set(1, 0), 1);
        due("set(2, 100)", x.set(2, 100), 1);
        due("go(1)", x.go(1), 50);
        due("set(3, 4)", x.set(3, 4), 0);
        due("set(3, 4) again", x.set(3, 4), 4);
        due("the LIFE stays", x.life(0), 1);
        due("the LIFE's AGE stays", x.life(1), 50);
        due("set(2, 1)", x.set(2, 1), 100);
        due("the LIFE's AGE stays beyond END", x.life(1), 50);
    }

    static void promise7Go() {
        AgesByMiles x = with("w01,200;w12,200;");
        due("go(-1)", x.go(-1), -1);
        due("go(4)", x.go(4), -1);
        due("go(3)", x.go(3), -3);
        due("go(2)", x.go(2), 400);
        due("go(2), where it is", x.go(2), 400);
        due("go(1) beyond END", x.go(1), -3);
        due("it stays", x.life(0), 2);
        x.set(2, 599);
        due("go(1) beyond END by 1", x.go(1), -3);
        x.set(2, 600);
        due("go(1)", x.go(1), 600);
        x.set(2, 10);
        due("beyond END where it is", x.go(1), -3);
        due("refused -3", x.count(13), 4);
    }

    static void promise8Have() {
        AgesByMiles x = with("w01,60;to010,0;ta07,0;tb09,0;ty111,59;tg012,0;tl013,0;");
        due("have(-1)", x.have(-1), -1);
        due("have(6)", x.have(6), -1);
        due("BEHIND ahead of it", x.have(2), -3);
        due("ONCE", x.have(0), 10);
        due("ONCE again", x.have(0), -3);
        due("BEHIND", x.have(2), 9);
        due("BEHIND again", x.have(2), -3);
        due("AGAIN", x.have(1), 7);
        due("AGAIN 2", x.have(1), 3);
        due("AGAIN 3", x.have(1), 1);
        due("AGAIN 4", x.have(1), -3);
        due("not at its PLACE", x.have(3), -3);
        due("GROWN ONE ahead of GROWN is had for 0", x.have(4), 0);
        due("GROWN ONE again", x.have(4), -3);
        x.go(1);
        due("YOUNG, later, cut", x.have(3), 5);
        x.go(0);
        due("LATE, grown", x.have(5), 13);
        due("WORTH of all", x.life(2), 10 + 9 + 7 + 3 + 1 + 0 + 5 + 13);
        due("had in all", x.count(8), 8);
        AgesByMiles y = with("to00,0;ta00,0;ta01,0;tb07,2;");
        due("ONCE worth 0 is had", y.have(0), 0);
        due("AGAIN worth 0 is not", y.have(1), -3);
        due("BEHIND an AGAIN, not yet", y.have(3), -3);
        due("AGAIN worth 1", y.have(2), 1);
        due("BEHIND an AGAIN", y.have(3), 7);
    }

    static void promise9WorthAt() {
        AgesByMiles x = with("to011,0;ta099,0;tb09,0;ty011,50;tg012,0;tl013,0;");
        due("worthAt(6)", x.worthAt(6, -1, 21), -1);
        due("worthAt(-1)", x.worthAt(-1, 0, 0), -1);
        due("age -1", x.worthAt(0, -1, 21), -4);
        due("n -1", x.worthAt(0, 1000, -1), -4);
        due("age 1000", x.worthAt(0, 1000, 0), -6);
        due("n 21", x.worthAt(0, 0, 21), -6);
        due("ONCE", x.worthAt(0, 999, 0), 11);
        due("ONCE n 1", x.worthAt(0, 0, 1), 0);
        int[] halves = {99, 49, 24, 12, 6, 3, 1, 0};
        for (int n = 0; n < halves.length; n++) {
            due("AGAIN n " + n, x.worthAt(1, 999, n), halves[n]);
        }
        due("AGAIN n 20", x.worthAt(1, 0, 20), 0);
        due("BEHIND as if had", x.worthAt(2, 0, 0), 9);
        due("BEHIND n 1", x.worthAt(2, 0, 1), 0);
        due("YOUNG at ASK", x.worthAt(3, 50, 0), 11);
        due("YOUNG later", x.worthAt(3, 51, 0), 5);
        due("YOUNG n 1", x.worthAt(3, 0, 1), 0);
        due("GROWN ONE ahead", x.worthAt(4, 99, 0), 0);
        due("GROWN ONE", x.worthAt(4, 100, 0), 12);
        due("GROWN ONE n 1", x.worthAt(4, 100, 1), 0);
        due("LATE ahead", x.worthAt(5, 99, 0), 0);
        due("LATE at OLD + 49", x.worthAt(5, 349, 0), 13);
        due("LATE at OLD + 50", x.worthAt(5, 350, 0), 14);
        due("LATE at 999", x.worthAt(5, 999, 0), 26);
        due("LATE n 1", x.worthAt(5, 999, 1), 0);
        x.set(1, 0);
        due("LATE with OLD 0, ahead of GROWN", x.worthAt(5, 99, 0), 0);
        due("LATE with OLD 0", x.worthAt(5, 100, 0), 15);
        AgesByMiles y = with("tl00,0;");
        due("LATE worth 0 gets no more", y.worthAt(0, 999, 0), 0);
    }

    static void promise10May() {
        AgesByMiles x = with("w01,60;to10,0;ta02,0;tb01,1;");
        due("may(3)", x.may(3), -1);
        due("may(-1)", x.may(-1), -1);
        due("not at its PLACE", x.may(0), 0);
        due("AGAIN", x.may(1), 1);
        due("BEHIND", x.may(2), 0);
        x.have(1);
        due("AGAIN still", x.may(1), 1);
        due("BEHIND then", x.may(2), 1);
        x.have(1);
        due("AGAIN no more", x.may(1), 0);
        x.go(1);
        due("BEHIND, elsewhere", x.may(2), 0);
    }

    static void promise11Life() {
        AgesByMiles x = with("w01,100;w12,200;to15,0;");
        due("life(5)", x.life(5), -2);
        due("life(-1)", x.life(-1), -2);
        due("GROWN at 0", x.life(3), 0);
        x.go(1);
        x.have(0);
        due("PLACE", x.life(0), 1);
        due("AGE", x.life(1), 100);
        due("WORTH", x.life(2), 5);
        due("GROWN at GROWN", x.life(3), 1);
        due("OLD at 100", x.life(4), 0);
        x.set(0, 101);
        due("GROWN below GROWN", x.life(3), 0);
        x.go(2);
        due("OLD at OLD", x.life(4), 1);
        x.set(1, 301);
        due("OLD below OLD", x.life(4), 0);
    }

    static void promise12NextLife() {
        AgesByMiles x = with("w01,100;to15,0;ta14,0;");
        due("nothing had", x.nextLife(), 0);
        x.go(1);
        x.have(0);
        x.have(1);
        x.have(1);
        x.set(3, 2);
        due("nextLife()", x.nextLife(), 11);
        due("at HOME", x.life(0), 2);
        due("AGE", x.life(1), 0);
        due("WORTH", x.life(2), 0);
        due("had", x.count(8), 0);
        due("had 1", x.thing(1, 4), 0);
    }

    static void promise13Order() {
        AgesByMiles x = with("n5;");
        due("n -1", x.order(-1, -1), -4);
        due("n 9", x.order(9, -1), -6);
        due("places below 0", x.order(1, -1), -1);
        due("places below 0 with n 0", x.order(0, -1), -1);
        due("a PLACE that there is not", x.order(3, 501), -1);
        due("order(3, 401)", x.order(3, 401), 0);
        due("only n are told", x.order(2, 99910), 3);
        due("order(8, 1234)", x.order(8, 1234), 2);
        due("8 of them", x.count(4), 8);
        due("order(0, 777)", x.order(0, 777), 8);
        due("none", x.count(4), 0);
        AgesByMiles y = with("w01,10;w12,100;");
        y.order(2, 12);
        due("the lowest first", y.lived(2, 1), 210);
        y.order(2, 21);
        due("the lowest first, 2", y.lived(2, 1), 110);
    }

    static void promise14LivedNearAndFar() {
        AgesByMiles x = with("n5;w01,10;w02,20;w03,20;to15,0;to26,0;to37,0;");
        due("kind -1", x.lived(-1, 0), -2);
        due("kind 4", x.lived(4, 0), -2);
        due("what -1", x.lived(0, -1), -2);
        due("what 2", x.lived(0, 2), -2);
        due("NEAR: 1, 2, 3", x.lived(0, 1), 10 + 30 + 40);
        due("NEAR's WORTH", x.lived(0, 0), 18);
        due("FAR: 2 (of 2 and 3 the least), 3, 1", x.lived(1, 1), 20 + 40 + 30);
        x.set(2, 59);
        due("NEAR within END", x.lived(0, 1), 40);
        due("FAR within END: 2, then 1 alone", x.lived(1, 1), 50);
        x.set(2, 60);
        due("FAR up to END", x.lived(1, 1), 60);
        due("FAR's WORTH up to END", x.lived(1, 0), 13);
        due("the LIFE at hand stays", x.life(1), 0);
        AgesByMiles again = with("w01,10;ta08,0;ta18,0;");
        due("AGAIN ones once each stay", again.lived(0, 0), 30);
        due("AGAIN: three goings back and forth and one more", again.lived(0, 1), 70);
        AgesByMiles grown = with("w01,50;w12,50;tg15,0;to21,0;");
        due("GROWN ONE on the way back", grown.lived(0, 1), 150);
        due("GROWN ONE on the way back: WORTH", grown.lived(0, 0), 6);
        AgesByMiles behind = with("w01,50;w12,10;to11,0;tb29,0;");
        due("NEAR goes on to what is BEHIND", behind.lived(0, 1), 60);
        due("FAR does not see what is BEHIND ahead of it", behind.lived(1, 1), 60);
        due("BEHIND's WORTH", behind.lived(1, 0), 10);
        AgesByMiles late = with("w01,50;w02,60;ty11,0;tg25,0;");
        due("what is cut to 0 there is not gone to", late.lived(0, 1), 0);
    }

    static void promise14LivedRoundAndSit() {
        AgesByMiles x = with("w01,10;w02,20;ta08,0;to15,0;");
        due("SIT", x.lived(3, 0), 8);
        due("SIT's AGE", x.lived(3, 1), 0);
        due("ROUND without ORDER", x.lived(2, 0), 8);
        x.order(4, 1300);
        due("ROUND: where it is it has again", x.lived(2, 0), 8 + 4 + 2 + 5);
        due("ROUND: not to be come to is left out", x.lived(2, 1), 10);
        x.order(3, 121);
        x.set(2, 29);
        due("ROUND: beyond END is left out", x.lived(2, 1), 10);
        x.set(2, 40);
        due("ROUND: up to END", x.lived(2, 1), 40);
        AgesByMiles zero = with("w01,100;tg15,0;");
        zero.order(2, 11);
        zero.set(3, 1);
        due("what is worth 0 is not had", zero.lived(2, 0), 0);
        zero.order(3, 101);
        due("and is there when grown", zero.lived(2, 0), 5);
    }

    static void promise15Best() {
        AgesByMiles x = with("w01,100;w12,100;ty09,0;to25,0;tb17,1;tg03,0;");
        due("best(-2)", x.best(-2), -4);
        due("best(least)", x.best(Integer.MIN_VALUE), -4);
        due("best(-1)", x.best(-1), 9 + 5 + 7 + 3);
        due("fourth", x.best(3), 3);
        x.set(2, 399);
        due("best(-1) within less", x.best(-1), 9 + 5 + 7);
        due("first", x.best(0), 0);
        due("second", x.best(1), 1);
        due("third", x.best(2), 2);
        due("no fourth", x.best(3), -9);
        due("best(most)", x.best(Integer.MAX_VALUE), -9);
        x.set(0, 0);
        due("a GROWN ONE at AGE 0, too", x.best(-1), 24);
        due("behind 0 at once", x.best(1), 3);
        due("then 1", x.best(2), 1);
        due("then 2", x.best(3), 2);
        due("the LIFE at hand stays", x.count(8), 0);
        AgesByMiles tie = with("w01,10;to15,0;to05,0;");
        due("of several the first by numbers", tie.best(0), 0);
        due("then", tie.best(1), 1);
        AgesByMiles shorter = with("to05,0;to00,0;");
        due("a shorter one ahead", shorter.best(1), -9);
        AgesByMiles none = with("to00,0;");
        due("nothing worth", none.best(-1), 0);
        due("nothing", none.best(0), -9);
        AgesByMiles needed = with("to00,0;tb05,0;");
        due("worth 0, but asked for", needed.best(0), 0);
        due("behind it", needed.best(1), 1);
        AgesByMiles again = with("ta09,0;ta00,0;");
        due("AGAIN once at most", again.best(-1), 9);
        due("AGAIN once", again.best(1), -9);
        AgesByMiles end = with("w01,200;w12,200;to25,0;");
        due("up to END", end.best(-1), 5);
        due("its THING", end.best(0), 0);
        end.set(2, 399);
        due("beyond END", end.best(-1), 0);
        due("no THING", end.best(0), -9);
        AgesByMiles wait = with("w01,100;tg09,0;to11,0;");
        due("goes for 1 to be grown for 0", wait.best(0), 1);
        due("WORTH", wait.best(-1), 10);
    }

    static void promise16House() {
        AgesByMiles x = with("w01,100;w12,100;w23,100;to35,0;ty09,50;");
        due("of several the least", x.house(), 0);
        x.set(2, 299);
        due("both can not be had whole", x.house(), 0);
        due("BEST by HOME is not changed", x.best(-1), 9);
        tell(x, "to39,0;");
        due("at 1, 2 and 3 is more", x.house(), 1);
        x.set(2, 199);
        due("at 2 and 3 is more", x.house(), 2);
        x.set(2, 99);
        due("at 3 alone is more", x.house(), 3);
        due("HOME stays", x.set(3, 0), 0);
        AgesByMiles y = with("n6;w45,10;to59,0;");
        due("where it can be come to", y.house(), 4);
        due("empty", new AgesByMiles().house(), 0);
    }

    static void promise17Call() {
        AgesByMiles x = new AgesByMiles();
        due("call(-1)", x.call(-1, -1, 100), -1);
        due("call(4)", x.call(4, -1, 100), -1);
        due("weight -1", x.call(0, -1, 100), -4);
        due("pay -1", x.call(0, 10, -1), -4);
        due("weight 10", x.call(0, 10, 0), -6);
        due("pay 100", x.call(0, 0, 100), -6);
        due("call(3, 9, 99)", x.call(3, 9, 99), 0);
        due("call(3, 2, 0)", x.call(3, 2, 0), 9);
        due("call(0, 5, 1)", x.call(0, 5, 1), 0);
        due("all WEIGHTS", x.count(5), 7);
        due("PAYS changed", x.calls(0, 1, 0), 5);
        due("below the line", x.calls(0, 1, 1), 7);
    }

    static void promise18Calls() {
        AgesByMiles x = with("n8;w01,10;w02,20;w03,30;");
        due("part -1", x.calls(-1, 7, -1), as(-2));
        due("part 2", x.calls(-1, 7, 2), as(-2));
        due("miles -1", x.calls(-1, 7, 0), as(-4));
        due("n -1", x.calls(1000, -1, 1), as(-4));
        due("miles 1000", x.calls(1000, 0, 0), as(-6));
        due("n 7", x.calls(0, 7, 0), as(-6));
        due("without WEIGHTS", x.calls(999, 6, 0), 0);
        due("without WEIGHTS, below", x.calls(999, 6, 1), 1);
        x.call(1, 1, 10);
        x.call(2, 1, 30);
        due("no CALL", x.calls(999, 0, 0), 0);
        due("no CALL, below", x.calls(999, 0, 1), 1);
        due("one, 19 miles", x.calls(19, 1, 0), 0);
        due("one, 20 miles", x.calls(20, 1, 0), 5);
        due("one, 39 miles", x.calls(39, 1, 0), 5);
        due("one, 40 miles", x.calls(40, 1, 0), 20);
        // Two: at 1 sits (20 more is better than 10 and 5), at 2 goes (30).
        due("two, 40 miles", x.calls(40, 2, 0), 25);
        // Three: V2 is 25; at 1 goes 10 + V2(20) = 10 + 15/2, less than 25; at 2 goes 30.
        due("three, 40 miles, above", x.calls(40, 3, 0), 55);
        due("three, 40 miles, below", x.calls(40, 3, 1), 2);
        x.call(1, 9, 99);
        x.call(2, 9, 98);
        for (int i = 3; i < 8; i++) {
            x.call(i, 9, 97);
        }
        x.call(0, 9, 99);
        due("all WEIGHTS", x.count(5), 72);
        // 0 (99), 1 (99), 2 (98), 3 (97) can be come to, each with 9 of 72; six at 999 miles all go.
        due("six, above", x.calls(999, 6, 0), 6 * (99 + 99 + 98 + 97) / 2);
        due("six, below", x.calls(999, 6, 1), 4);
    }

    static void promise19Goes() {
        AgesByMiles x = with("w01,10;w02,20;");
        due("goes(-1)", x.goes(-1, 0, -1), -1);
        due("goes(4)", x.goes(1000, 9, 4), -1);
        due("miles -1", x.goes(-1, 7, 0), -4);
        due("n 0", x.goes(1000, 0, 0), -4);
        due("miles 1000", x.goes(1000, 1, 0), -6);
        due("n 7", x.goes(0, 7, 0), -6);
        x.call(1, 1, 10);
        x.call(2, 1, 30);
        due("one, 19 miles", x.goes(19, 1, 1), 0);
        due("one, 20 miles", x.goes(20, 1, 1), 1);
        due("two, 40 miles, at 1", x.goes(40, 2, 1), 0);
        due("two, 40 miles, at 2", x.goes(40, 2, 2), 1);
        due("two, 60 miles, at 1", x.goes(60, 2, 1), 1);
        due("not to be come to", x.goes(999, 1, 3), 0);
        due("999 miles, six", x.goes(999, 6, 1), 1);
        x.call(1, 0, 15);
        x.call(2, 1, 15);
        due("no less: goes", x.goes(40, 2, 1), 1);
        x.call(1, 0, 14);
        due("less: sits", x.goes(40, 2, 1), 0);
        due("a place without WEIGHT, one", x.goes(40, 1, 1), 1);
    }

    static void promise20Together() {
        AgesByMiles x = with("w01,100;w12,100;");
        due("a -1", x.together(-1, 1000), -4);
        due("b -1", x.together(1000, -1), -4);
        due("a 1000", x.together(1000, 0), -6);
        due("b 1000", x.together(0, 1000), -6);
        due("no ORDER", x.together(0, 0), 0);
        due("a 999", x.together(999, 0), 0);
        due("b 999", x.together(0, 999), 0);
        x.order(5, 21301);
        due("all but 3: 1, 0, 1, 2", x.together(0, 0), 4);
        due("up to END", x.together(100, 0), 3);
        due("the older one tells", x.together(0, 101), 2);
        due("the older one tells, a", x.together(201, 7), 1);
        due("none", x.together(301, 0), 0);
        x.order(2, 10);
        due("where they are, within END", x.together(400, 400), 1);
        due("where they are, beyond END", x.together(401, 400), 0);
        x.set(3, 3);
        due("from HOME none can be come to", x.together(0, 0), 0);
        AgesByMiles y = with("w01,200;w12,1;w02,200;");
        y.order(3, 211);
        y.set(2, 200);
        due("behind the first beyond END none is reached", y.together(0, 0), 2);
        AgesByMiles z = with("w01,100;w02,10;");
        z.order(3, 21);
        z.set(2, 50);
        due("one beyond END is walked to all the same", z.together(0, 0), 0);
    }

    static void promise21Child() {
        AgesByMiles x = new AgesByMiles();
        due("a -1", x.child(-1, 1000, 0), -4);
        due("b -1", x.child(0, -1, 1000), -4);
        due("m -1", x.child(1000, 0, -1), -4);
        due("a 1000", x.child(1000, 0, 0), -6);
        due("b 1000", x.child(0, 1000, 0), -6);
        due("m 1000", x.child(0, 0, 1000), -6);
        int[] some = {0, 1, 2, 3, 7, 10, 11, 12, 20, 999};
        for (int a : some) {
            for (int b : some) {
                for (int m : some) {
                    int most = -9;
                    for (int byA = 0; byA <= Math.min(a, m); byA++) {
                        if (m - byA <= b) {
                            most = Math.max(most, Math.min(a - byA, b - (m - byA)));
                        }
                    }
                    due("child(" + a + ", " + b + ", " + m + ")", x.child(a, b, m), most);
                }
            }
        }
    }

    static void promise22Person() {
        AgesByMiles x = new AgesByMiles();
        due("person(4)", x.person(4, -1), -1);
        due("person(-1)", x.person(-1, 1000), -1);
        due("gone -1", x.person(0, -1), -4);
        due("gone 1000", x.person(0, 1000), -6);
        for (int i = 1; i <= 4; i++) {
            due("person " + i, x.person(i - 1, 999), i);
        }
        due("no such PLACE comes first", x.person(4, 0), -1);
        due("below comes first", x.person(0, -1), -4);
        due("no room", x.person(0, 0), -6);
        due("PEOPLE", x.count(3), 4);
    }

    static void promise23Send() {
        AgesByMiles x = with("n6;w01,10;w12,10;w23,10;");
        due("send(6)", x.send(6, 9), -1);
        due("send(-1)", x.send(-1, 0), -1);
        due("what 2", x.send(0, 2), -2);
        due("what -1", x.send(0, -1), -2);
        due("none", x.send(0, 0), -9);
        due("none, for", x.send(0, 1), -9);
        x.person(0, 99);
        due("PRICE 4", x.send(1, 1), 80);
        x.person(0, 100);
        due("PRICE 3", x.send(1, 1), 60);
        due("who", x.send(1, 0), 1);
        due("where they live, for 0 the least number", x.send(0, 0), 0);
        due("for 0", x.send(0, 1), 0);
        x.person(3, 299);
        due("of several the least number", x.send(3, 0), 2);
        x.person(2, 300);
        due("PRICE 1", x.send(0, 1), 0);
        due("PRICE 1, from 2 to 3 against one who lives there", x.send(3, 0), 2);
        due("PRICE 1, from 2 to 1", x.send(1, 0), 3);
        due("PRICE 1, for", x.send(1, 1), 20);
        x.set(2, 320);
        due("within END", x.send(1, 0), 3);
        x.set(2, 319);
        due("beyond END", x.send(1, 0), 1);
        due("not to be come to", x.send(5, 0), -9);
        due("not to be come to, for", x.send(5, 1), -9);
        x.set(0, 101);
        due("by GROWN", x.send(1, 1), 80);
        due("of two alike the least", x.send(1, 0), 0);
    }

    static void promise24Wells() {
        AgesByMiles x = with("n5;w01,10;w12,10;w23,10;");
        due("k 0", x.wells(0), -4);
        due("k -5", x.wells(-5), -4);
        due("k 4", x.wells(4), -6);
        // At 1 or 2: 10 + 10 + 20 and 1000 for 4; at 4: 4000.
        due("one", x.wells(1), 2);
        // 1 or 2 with 4: 40; two of the row: 20 and 1000.
        due("two", x.wells(2), 18);
        // {0, 2, 4}, {0, 3, 4}, {1, 2, 4}, {1, 3, 4}: 20 each; as bits the least.
        due("three", x.wells(3), 16 + 4 + 1);
        AgesByMiles two = with("n2;");
        due("k above PLACES", two.wells(3), -6);
        due("k as PLACES", two.wells(2), 3);
        AgesByMiles far = with("n8;w01,200;w12,200;w23,200;w34,200;w45,200;w56,200;w67,200;");
        due("beyond 1000 is still to be come to", far.wells(1), 8);
        // One well in the row of six and one at the lone PLACE: 1800; two in the row: 800 and 1000.
        AgesByMiles lone = with("n7;w01,200;w12,200;w23,200;w34,200;w45,200;");
        due("1000 and no more for none", lone.wells(2), 2 + 16);
        AgesByMiles first = with("n7;w12,200;w23,200;w34,200;w45,200;w56,200;");
        due("1000 and no less for none", first.wells(2), 1 + 8);
    }

    static void promise25Many() {
        AgesByMiles x = new AgesByMiles();
        due("n -1", x.many(-1, 10, 10, 16), as(-4));
        due("b -1", x.many(1000, -1, 10, 16), as(-4));
        due("s 0", x.many(1000, 10, 0, 16), as(-4));
        due("t -1", x.many(1000, 10, 10, -1), as(-4));
        due("n 1000", x.many(1000, 0, 1, 0), as(-6));
        due("b 10", x.many(0, 10, 1, 0), as(-6));
        due("s 10", x.many(0, 0, 10, 0), as(-6));
        due("t 16", x.many(0, 0, 1, 16), as(-6));
        due("refused -4", x.count(14), 4);
        due("refused -6", x.count(16), 4);
        due("step 0", x.many(7, 9, 1, 0), 7);
        due("ahead of step s", x.many(7, 9, 3, 2), 7);
        due("at step s", x.many(7, 9, 3, 3), 70);
        // 1, 1, 2, 3, 5, 8 ..: each adds what was there two steps ahead.
        due("s 2", x.many(1, 1, 2, 6), 13);
        due("none", x.many(0, 9, 1, 15), 0);
        due("most", x.many(999, 9, 1, 15), 999000000000000000L);
        due("s 9", x.many(1, 1, 9, 9), 2);
    }

    static void promise26Stray() {
        AgesByMiles x = with("n2;w01,1;ta08,0;to15,0;tg190,0;");
        due("n 0", x.stray(0, 1), -4);
        due("n 41", x.stray(41, 1), -6);
        // z 0: 1013904223 by 256 is 3960563, odd: to 1.
        due("one DRAW: 8 at first, 5 and a GROWN ONE for 0 at 1", x.stray(1, 0), 13);
        // z 1: 1015568748 by 256 is 3967065, odd: to 1 too.
        due("another seed", x.stray(1, 1), 13);
        // z 100: 1180356723 by 256 is 4610768, even.
        due("one DRAW to 0, where it is: AGAIN again", x.stray(1, 100), 12);
        // z 2000000000 wraps below 0: its sign's bit is left away.
        int z = 2000000000 * 1664525 + 1013904223;
        due("without its sign's bit", x.stray(1, 2000000000), (z & 0x7fffffff) / 256 % 2 == 1 ? 13 : 12);
        x.go(1);
        due("a fresh LIFE", x.stray(1, 0), 13);
        due("the LIFE at hand stays", x.life(0), 1);
        AgesByMiles y = with("n2;ta064,0;to15,0;");
        due("not to be come to: it stays, with each DRAW again", y.stray(3, 7), 64 + 32 + 16 + 8);
        due("till nothing is left", y.stray(40, 7), 127);
    }

    static void promise27Row() {
        AgesByMiles x = new AgesByMiles();
        due("row(-1)", x.row(-1), -4);
        due("row(10)", x.row(10), -6);
        for (int i = 1; i <= 10; i++) {
            due("row " + i, x.row(i - 1), i);
        }
        due("below comes first", x.row(-1), -4);
        due("no room", x.row(0), -6);
        due("bytes", x.count(6), 10);
    }

    private static int judged(AgesByMiles x, int what, int... row) {
        for (int v : row) {
            x.row(v);
        }
        int answer = x.judge(what);
        due("the ROW has none then", x.count(6), 0);
        return answer;
    }

    static void promise28Judge() {
        AgesByMiles x = with("n5;w01,100;w12,100;");
        x.row(1);
        due("judge(2)", x.judge(2), -2);
        due("judge(-1)", x.judge(-1), -2);
        due("the ROW stays", x.count(6), 1);
        due("a right ROW", judged(x, 0), -9);
        due("no ROW", judged(x, 0), -9);
        due("no ROW, OLD ONE", judged(x, 1), -9);
        due("no PLACE", judged(x, 0, 1, 5, 1), 1);
        due("not to be come to", judged(x, 0, 0, 1, 3), 2);
        due("up to END", judged(x, 0, 2, 1, 0), -9);
        due("beyond END", judged(x, 0, 2, 1, 0, 0, 1), 4);
        due("OLD ONE at OLD", judged(x, 1, 2, 1, 0), 1);
        x.set(1, 301);
        due("OLD ONE later", judged(x, 1, 2, 1, 0), 2);
        x.set(1, 401);
        due("OLD ONE, none", judged(x, 1, 2, 1, 0), -9);
        due("OLD ONE only up to the one JUDGED", judged(x, 1, 2, 1, 0, 1), -9);
        x.set(1, 300);
        due("OLD ONE behind the one JUDGED does not count", judged(x, 1, 2, 9, 1), -9);
        x.set(1, 0);
        due("OLD at 0", judged(x, 1, 0), 0);
        due("OLD at 0, JUDGED at once", judged(x, 1, 3), -9);
        x.set(3, 2);
        x.set(1, 200);
        due("from HOME", judged(x, 1, 1, 0), 1);
        due("the LIFE at hand stays", x.life(1), 0);
    }

    static void promise29And30ImageAndOn() {
        AgesByMiles x = with("n5;w01,50;to110,0;ta18,0;");
        due("on() without image", x.on(), -3);
        x.set(0, 1);
        x.set(1, 2);
        x.set(2, 900);
        x.set(3, 1);
        x.order(2, 41);
        x.call(2, 7, 9);
        x.person(3, 4);
        x.go(1);
        x.have(1);
        x.row(1);
        tape(x, "n5;");
        due("image()", x.image(), 5);
        x.set(0, 11);
        x.set(1, 12);
        x.set(2, 13);
        x.set(3, 0);
        x.order(0, 0);
        x.call(2, 1, 1);
        x.call(0, 3, 1);
        x.person(0, 0);
        x.have(0);
        x.have(1);
        x.row(2);
        due("all else", tell(x, "n8;w12,5;to77,0;"), 4);
        x.nextLife();
        tape(x, "n");
        due("on()", x.on(), 5);
        due("PLACES", x.count(0), 5);
        due("WAYS", x.count(1), 1);
        due("FAR", x.far(1, 2), -9);
        due("THINGS", x.count(2), 2);
        due("PEOPLE", x.count(3), 1);
        due("ORDER", x.count(4), 2);
        due("WEIGHTS", x.count(5), 7);
        due("the ROW is not in it", x.count(6), 2);
        due("letters are not in it", x.count(7), 1);
        due("REFUSALS are not in it", x.count(13), 1);
        due("had", x.count(8), 1);
        due("had AGAIN", x.thing(1, 4), 1);
        due("LIFE's PLACE", x.life(0), 1);
        due("LIFE's AGE", x.life(1), 50);
        due("LIFE's WORTH", x.life(2), 8);
        due("PAY and WEIGHT", x.call(2, 7, 9), 7);
        due("GROWN", x.set(0, 0), 1);
        due("OLD", x.set(1, 0), 2);
        due("END", x.set(2, 1), 900);
        due("HOME", x.set(3, 0), 1);
        x.go(0);
        due("on() once more", x.on(), 5);
        due("END as then", x.set(2, 900), 900);
        tell(x, "5;");
        due("the tape goes on behind", x.count(0), 5);
        AgesByMiles z = new AgesByMiles();
        z.call(0, 1, 50);
        z.person(0, 50);
        z.image();
        z.call(0, 1, 60);
        due("on() once", z.on(), 4);
        due("PAYS", z.calls(0, 1, 0), 50);
        z.set(2, 49);
        due("miles gone, beyond END", z.send(0, 0), -9);
        z.set(2, 50);
        due("miles gone, within END", z.send(0, 0), 0);
        AgesByMiles t = new AgesByMiles();
        t.image();
        t.person(3, 999);
        t.on();
        t.person(1, 0);
        t.image();
        t.on();
        due("another one's miles gone", t.send(1, 0), 0);
        AgesByMiles y = new AgesByMiles();
        y.image();
        due("a THING more", tell(y, "to05,0;"), 1);
        due("on() to none", y.on(), 4);
        due("no THING", y.thing(0, 0), -1);
        due("a THING of another KIND", tell(y, "ta05,0;"), 1);
        due("its KIND", y.thing(0, 0), 1);
        due("image() anew", y.image(), 4);
        due("on() to it", y.on(), 4);
        due("it is there", y.thing(0, 0), 1);
    }

    static void promise31Count() {
        AgesByMiles x = with("n6;w01,50;w02,50;to01,0;to01,0;ta08,0;");
        x.order(3, 123);
        x.call(1, 4, 1);
        x.call(2, 5, 1);
        x.person(1, 1);
        x.row(9);
        x.feed(3, 0);
        x.have(0);
        x.have(2);
        x.have(2);
        int[] due = {6, 2, 3, 1, 3, 9, 1, 3, 3, -9, -9, 0, 0, 0, 0, 0, 0, -9};
        for (int what = 0; what < due.length; what++) {
            due("count(" + what + ")", x.count(what), due[what]);
        }
        due("count(-1)", x.count(-1), -9);
        due("count(most)", x.count(Integer.MAX_VALUE), -9);
        due("count(least)", x.count(Integer.MIN_VALUE), -9);
        x.go(9);
        x.life(9);
        x.have(0);
        x.set(0, -1);
        x.calls(0, 9, 0);
        x.calls(0, 0, 9);
        int[] refused = {1, 2, 1, 1, 0, 1};
        for (int i = 0; i < refused.length; i++) {
            due("count(" + (11 + i) + ")", x.count(11 + i), refused[i]);
        }
    }
}

/**
 * Each sentence about promises 1 to 5 (a new object, feed, land, far, thing) that names a boundary case has a test of
 * its own here.
 */
public final class LandBoundsTest extends Checks {
    private static final String DIGITS = "0123456789";
    private static final String KINDS = "oabygl";
    /** The beginnings of all STATEMENTS, each with the bytes that may come next. */
    private static final String[][] BEGINNINGS = {
        {"", "nwt"}, {"n", DIGITS}, {"n8", ";"},
        {"w", DIGITS}, {"w0", DIGITS}, {"w01", ","}, {"w01,", DIGITS}, {"w01,1", DIGITS + ";"},
        {"w01,12", DIGITS + ";"}, {"w01,123", ";"},
        {"t", KINDS}, {"to", DIGITS}, {"to0", DIGITS}, {"to01", DIGITS + ","}, {"to012", ","}, {"to012,", DIGITS},
        {"to012,3", DIGITS + ";"}, {"to012,34", DIGITS + ";"}, {"to012,345", ";"}};

    public static void main(String[] args) {
        runAll(LandBoundsTest.class);
    }

    /** The text by itself on a new object, which stays as a new one when there is a FAULT. */
    private static void landOf(String text, int want) {
        AgesByMiles x = new AgesByMiles();
        due("land of '" + text + "'", tell(x, text), want);
        due("the tape behind '" + text + "'", x.count(7), 0);
        if (want < 0) {
            for (int what = 0; what <= 16; what++) {
                due("count(" + what + ") behind '" + text + "'", x.count(what), new AgesByMiles().count(what));
            }
        }
    }

    private static void landHere(AgesByMiles x, String text, int want) {
        due("land of '" + text + "'", tell(x, text), want);
    }

    // Promise 1: "Four PLACES without WAYS."

    static void promise1FourPlaces() {
        AgesByMiles x = new AgesByMiles();
        due("PLACES", x.count(0), 4);
        due("far(3, 3)", x.far(3, 3), 0);
        due("far(4, 4)", x.far(4, 4), -1);
        due("far(-1, -1)", x.far(-1, -1), -1);
    }

    static void promise1WithoutWays() {
        AgesByMiles x = new AgesByMiles();
        due("WAYS", x.count(1), 0);
        for (int from = 0; from < 4; from++) {
            for (int to = 0; to < 4; to++) {
                due("far(" + from + ", " + to + ")", x.far(from, to), from == to ? 0 : -9);
            }
        }
    }

    static void promise1NothingElseIsTold() {
        AgesByMiles x = new AgesByMiles();
        for (int what = 2; what <= 8; what++) {
            due("count(" + what + ")", x.count(what), 0);
        }
        for (int what = 11; what <= 16; what++) {
            due("count(" + what + ")", x.count(what), 0);
        }
        due("no THING", x.thing(0, 0), -1);
        due("no ORDER", x.order(0, 0), 0);
        for (int place = 0; place < 4; place++) {
            due("WEIGHT 0 at first", x.call(place, 0, 0), 0);
            due("no PEOPLE", x.send(place, 0), -9);
        }
        due("no ROW", x.judge(0), -9);
        due("no TAPE", x.land(), -1000);
        due("no IMAGE", x.on(), -3);
    }

    static void promise1SettingsAtFirst() {
        AgesByMiles x = new AgesByMiles();
        due("GROWN", x.set(0, 0), 100);
        due("OLD", x.set(1, 0), 300);
        due("END", x.set(2, 1), 400);
        due("HOME", x.set(3, 3), 0);
    }

    static void promise1LifeAtHomeOfAge0() {
        AgesByMiles x = new AgesByMiles();
        for (int what = 0; what <= 4; what++) {
            due("life(" + what + ")", x.life(what), 0);
        }
    }

    static void promise1ObjectsShareNothing() {
        AgesByMiles x = with("n8;w01,5;to05,0;");
        x.set(2, 9);
        x.order(2, 10);
        x.call(0, 3, 3);
        x.person(0, 0);
        x.row(1);
        x.feed(1, 'n');
        x.have(0);
        x.go(1);
        x.image();
        promise1FourPlaces();
        promise1WithoutWays();
        promise1NothingElseIsTold();
        promise1SettingsAtFirst();
        promise1LifeAtHomeOfAge0();
    }

    // Promise 2: "n (1 .. 8) bytes come, the lowest first: how many THE TAPE has. -4; -6 (n; above 64)."

    static void promise2From1ByteTo8() {
        for (int n = 1; n <= 8; n++) {
            due("feed(" + n + ")", new AgesByMiles().feed(n, 0), n);
        }
    }

    static void promise2Below1() {
        for (int n : new int[] {0, -1, -8, Integer.MIN_VALUE}) {
            AgesByMiles x = new AgesByMiles();
            due("feed(" + n + ")", x.feed(n, 'n'), -4);
            due("none came", x.count(7), 0);
            due("refused", x.count(14), 1);
        }
    }

    static void promise2Above8() {
        for (int n : new int[] {9, 10, 64, 65, Integer.MAX_VALUE}) {
            AgesByMiles x = new AgesByMiles();
            due("feed(" + n + ")", x.feed(n, 'n'), -6);
            due("none came", x.count(7), 0);
            due("refused", x.count(16), 1);
        }
    }

    private static AgesByMiles taped(int bytes) {
        AgesByMiles x = new AgesByMiles();
        for (int i = 0; i < bytes; i++) {
            x.feed(1, "n4;".charAt(i % 3));
        }
        return x;
    }

    static void promise2UpTo64() {
        for (int n = 1; n <= 8; n++) {
            AgesByMiles x = taped(64 - n);
            due("feed(" + n + ") up to 64", x.feed(n, 0), 64);
            due("64 bytes", x.count(7), 64);
        }
    }

    static void promise2Above64() {
        for (int n = 1; n <= 8; n++) {
            AgesByMiles x = taped(65 - n);
            due("feed(" + n + ") above 64", x.feed(n, 0), -6);
            due("none of them came", x.count(7), 65 - n);
            due("refused", x.count(16), 1);
            if (n > 1) {
                due("fewer still come", x.feed(n - 1, 0), 64);
            }
        }
    }

    static void promise2Above64ChangesNoByte() {
        AgesByMiles x = taped(63);
        x.feed(2, 'w');
        due("what was fed ahead stands", x.land(), 21);
    }

    static void promise2BelowComesAheadOfFull() {
        AgesByMiles x = taped(64);
        due("feed(0)", x.feed(0, 0), -4);
        due("feed(1)", x.feed(1, 0), -6);
        due("feed(-1)", x.feed(-1, 0), -4);
    }

    static void promise2LowestFirst() {
        AgesByMiles x = new AgesByMiles();
        x.feed(3, 'n' | '7' << 8 | ';' << 16);
        due("land()", x.land(), 1);
        due("n7;", x.count(0), 7);
        x.feed(3, ';' | '7' << 8 | 'n' << 16);
        due("highest first", x.land(), -1000);
    }

    static void promise2OnlyNBytesCome() {
        AgesByMiles x = new AgesByMiles();
        x.feed(2, 'n' | '7' << 8 | 0x7fffffffffff0000L);
        x.feed(1, ';' | -256L);
        due("land()", x.land(), 1);
        due("n7;", x.count(0), 7);
    }

    /** The highest of eight bytes has the sign; a byte is never read with one. */
    static void promise2EighthByteWithTheSign() {
        for (int last : new int[] {0, 127, 128, 255, ';' + 128}) {
            AgesByMiles x = new AgesByMiles();
            tape(x, "w01,123" + (char) last);
            due("an eighth byte " + last, x.land(), -1007);
        }
        landOf("w01,123;", 1);
    }

    static void promise2TapeGoesOn() {
        AgesByMiles x = new AgesByMiles();
        due("one", x.feed(1, 'n'), 1);
        due("another", x.feed(1, '5'), 2);
        due("two more", x.feed(2, ';' | 'n' << 8), 4);
        due("two more", x.feed(2, '6' | ';' << 8), 6);
        due("land()", x.land(), 2);
        due("n6;", x.count(0), 6);
    }

    static void promise2RoomAgainBehindLand() {
        AgesByMiles x = taped(64);
        due("land()", x.land(), -1064);
        for (int i = 1; i <= 8; i++) {
            due("feed(8)", x.feed(8, 0), 8 * i);
        }
        due("feed(1)", x.feed(1, 0), -6);
    }

    // Promise 3, FAULTS of kind 1: "the place of the first byte with which no LAND can go on (the end, if something
    // lacks): -1000 less the place".

    static void promise3EveryByteBehindEveryBeginning() {
        for (String[] row : BEGINNINGS) {
            for (int c = 0; c < 256; c++) {
                String text = row[0] + (char) c;
                boolean fits = row[1].indexOf(c) >= 0;
                if (!fits) {
                    landHere(new AgesByMiles(), text, -1000 - row[0].length());
                    landHere(new AgesByMiles(), "n4;" + text + ";n4;", -1003 - row[0].length());
                } else if (c != ';') {
                    landHere(new AgesByMiles(), text, -1000 - text.length());
                }
            }
        }
    }

    static void promise3EndIfSomethingLacks() {
        for (String[] row : BEGINNINGS) {
            landOf(row[0], -1000 - row[0].length());
            if (!row[0].isEmpty()) {
                landOf("n4;n5;" + row[0], -1006 - row[0].length());
            }
        }
    }

    static void promise3AtLeastOneStatement() {
        AgesByMiles x = new AgesByMiles();
        due("none", x.land(), -1000);
        due("none again", x.land(), -1000);
        landHere(x, "n4;", 1);
        due("none again", x.land(), -1000);
    }

    static void promise3EachStatementHasItsSign() {
        landOf("n4", -1002);
        landOf("n4n4;", -1002);
        landOf("n4;n4", -1005);
        landOf("w01,12", -1006);
        landOf("to01,1", -1006);
        landOf("n4;;", -1003);
        landOf(";n4;", -1000);
    }

    static void promise3PlacesAreOneDigit() {
        landOf("n10;", -1002);
        landOf("n08;", -1002);
        landOf("w012,5;", -1003);
        landOf("w0,5;", -1002);
    }

    static void promise3MilesAre1To3Digits() {
        landOf("w01,;", -1004);
        landOf("w01,1;", 1);
        landOf("w01,11;", 1);
        landOf("w01,111;", 1);
        landOf("w01,0111;", -1007);
        landOf("w01,1111;", -1007);
    }

    static void promise3WorthIs1Or2Digits() {
        landOf("to0,1;", -1003);
        landOf("to01,1;", 1);
        landOf("to011,1;", 1);
        landOf("to0011,1;", -1005);
        landOf("to0111,1;", -1005);
    }

    static void promise3AskIs1To3Digits() {
        landOf("to01,;", -1005);
        landOf("to01,1;", 1);
        landOf("to01,11;", 1);
        landOf("to01,111;", 1);
        landOf("to01,0111;", -1008);
        landOf("to01,1111;", -1008);
    }

    static void promise3KindsOfThings() {
        for (int c = 0; c < 256; c++) {
            int kind = KINDS.indexOf(c);
            landHere(new AgesByMiles(), "t" + (char) c + "01,0;",
                kind < 0 ? -1001 : kind == 2 ? -2000 : 1);
        }
    }

    static void promise3NumbersMayBeginWith0() {
        AgesByMiles x = with("w01,007;w02,07;w12,010;to009,000;to109,012;ty12,002;");
        due("007", x.far(0, 1), 7);
        due("07", x.far(0, 2), 7);
        due("010", x.far(1, 2), 10);
        due("WORTH 09", x.thing(0, 2), 9);
        due("ASK 000", x.thing(0, 3), 0);
        due("ASK 012", x.thing(1, 3), 12);
        due("ASK 002", x.thing(2, 3), 2);
    }

    static void promise3Kind1AheadOfKind2() {
        landOf("n9;w00,0;to90,0;x", -1016);
        landOf("n9;n9;n9", -1008);
        landOf("w00,0;w", -1007);
        landOf("n9;n4;", -2000);
    }

    // Promise 3: "64 bytes at most".

    static void promise3TextOf64Bytes() {
        StringBuilder text = new StringBuilder();
        for (int i = 0; i < 19; i++) {
            text.append("n4;");
        }
        text.append("to07,1;");
        AgesByMiles x = new AgesByMiles();
        due("bytes", text.length(), 64);
        landHere(x, text.toString(), 20);
        due("its last STATEMENT", x.thing(0, 2), 7);
        text.setCharAt(63, '0');
        landOf(text.toString(), -1064);
        text.setCharAt(63, ',');
        landOf(text.toString(), -1063);
    }

    static void promise3MostStatements() {
        landOf("n4;".repeat(21), 21);
        landOf("n4;".repeat(21) + "n", -1064);
        landOf("n4;".repeat(21) + ";", -1063);
        landOf("n4;".repeat(20) + "n9;", -2060);
    }

    // Promise 3, FAULTS of kind 2: "the place of the letter of the first STATEMENT that, behind all ahead of it in
    // the text, is not as it must be".

    static void promise3From2PlacesTo8() {
        for (int n = 0; n <= 9; n++) {
            AgesByMiles x = new AgesByMiles();
            landHere(x, "n" + n + ";", n >= 2 && n <= 8 ? 1 : -2000);
            int places = n >= 2 && n <= 8 ? n : 4;
            due("PLACES", x.count(0), places);
            due("the last", x.far(places - 1, places - 1), 0);
            due("beyond the last", x.far(places, places), -1);
        }
    }

    static void promise3AsManyPlacesAsThereAre() {
        landOf("n4;", 1);
        landOf("n4;n4;n8;n8;n2;n2;", 6);
    }

    /** n PLACES are too few for what is told on x; one more is enough, and nothing else holds. */
    private static void needsMoreThan(AgesByMiles x, int n) {
        landHere(x, "n" + n + ";", -2000);
        landHere(x, "n8;n" + n + ";", -2003);
        due("PLACES stay", x.count(0), 8);
        landHere(x, "n" + (n + 1) + ";", 1);
        due("PLACES", x.count(0), n + 1);
    }

    static void promise3NotFewerThanWaysTellOf() {
        for (int place = 2; place < 8; place++) {
            needsMoreThan(with("n8;w0" + place + ",1;"), place);
            needsMoreThan(with("n8;w" + place + "1,200;"), place);
            landOf("n8;w0" + place + ",9;n" + place + ";", -2009);
        }
    }

    static void promise3NotFewerThanThingsTellOf() {
        for (int place = 2; place < 8; place++) {
            needsMoreThan(with("n8;to" + place + "0,0;"), place);
            needsMoreThan(with("n8;ta" + place + "0,0;ta00,0;"), place);
            landOf("n8;to" + place + "0,0;n" + place + ";", -2010);
        }
    }

    static void promise3NotFewerThanHomeTellsOf() {
        for (int place = 2; place < 8; place++) {
            AgesByMiles x = with("n8;");
            x.set(3, place);
            needsMoreThan(x, place);
            x.set(3, 1);
            landHere(x, "n2;", 1);
        }
    }

    static void promise3NotFewerThanPeopleTellOf() {
        for (int place = 2; place < 8; place++) {
            for (int number = 0; number < 4; number++) {
                AgesByMiles x = with("n8;");
                for (int i = 0; i < 4; i++) {
                    x.person(i == number ? place : 1, 0);
                }
                needsMoreThan(x, place);
            }
        }
    }

    static void promise3NotFewerThanTheOrderTellsOf() {
        for (int place = 2; place < 8; place++) {
            for (long first = place; first < 100000000L; first *= 10) {
                AgesByMiles x = with("n8;");
                x.order(8, first);
                needsMoreThan(x, place);
                x.order(2, 10);
                landHere(x, "n2;", 1);
            }
        }
    }

    static void promise3DigitsBehindTheOrderHoldNone() {
        AgesByMiles x = with("n8;");
        x.order(1, 7);
        x.order(0, 0);
        landHere(x, "n2;", 1);
    }

    static void promise3NotFewerThanWeightsAbove0TellOf() {
        for (int place = 2; place < 8; place++) {
            AgesByMiles x = with("n8;");
            x.call(place, 1, 0);
            needsMoreThan(x, place);
            x.call(place, 0, 99);
            landHere(x, "n2;", 1);
        }
    }

    static void promise3WeightOf0HoldsNone() {
        AgesByMiles x = with("n8;");
        for (int place = 0; place < 8; place++) {
            x.call(place, 0, 99);
        }
        landHere(x, "n2;", 1);
    }

    static void promise3NotFewerThanWhereTheLifeIs() {
        for (int place = 2; place < 8; place++) {
            AgesByMiles x = with("n8;");
            x.set(3, place);
            x.nextLife();
            x.set(3, 0);
            needsMoreThan(x, place);
            x.nextLife();
            landHere(x, "n2;", 1);
        }
    }

    /** Each of the seven that tell of a PLACE has the farthest once, and the others' are nearer. */
    static void promise3NotFewerThanTheFarthestOfAllTellsOf() {
        for (int farthest = 0; farthest < 7; farthest++) {
            int[] places = {1, 2, 1, 2, 1, 2, 1};
            places[farthest] = 6;
            AgesByMiles x = with("n8;w0" + places[0] + ",1;to" + places[1] + "0,0;");
            x.set(3, places[6]);
            x.nextLife();
            x.set(3, places[2]);
            x.person(places[3], 0);
            x.order(1, places[4]);
            x.call(places[5], 1, 0);
            needsMoreThan(x, 6);
        }
    }

    static void promise3TheRowAndTheImageHoldNone() {
        AgesByMiles x = with("n8;");
        x.set(3, 7);
        x.image();
        x.set(3, 0);
        x.row(7);
        landHere(x, "n2;", 1);
        due("on()", x.on(), 8);
        due("HOME as then", x.set(3, 7), 7);
    }

    static void promise3MilesFrom1To200() {
        int[] fit = {1, 2, 99, 199, 200};
        int[] not = {0, 201, 300, 999};
        for (int miles : fit) {
            AgesByMiles x = with("w01," + miles + ";");
            due("far(0, 1)", x.far(0, 1), miles);
        }
        for (int miles : not) {
            landOf("w01," + miles + ";", -2000);
        }
        landOf("w01,00;", -2000);
        landOf("w01,000;", -2000);
    }

    static void promise3WayBetweenPlacesThatThereAre() {
        landOf("w03,5;", 1);
        landOf("w30,5;", 1);
        landOf("w04,5;", -2000);
        landOf("w40,5;", -2000);
        landOf("n5;w04,5;", 2);
        landOf("n5;w05,5;", -2003);
        landOf("n8;w70,5;", 2);
        landOf("n8;w08,5;", -2003);
        landOf("n8;w97,5;", -2003);
        landOf("n3;w03,5;", -2003);
    }

    static void promise3PlacesMustBeThereAheadOfIt() {
        landOf("w04,5;n5;", -2000);
        landOf("to41,0;n5;", -2000);
        AgesByMiles x = with("n5;");
        landHere(x, "w04,5;to41,0;", 2);
    }

    static void promise3WayBetweenTwo() {
        for (int place = 0; place < 4; place++) {
            landOf("w" + place + place + ",5;", -2000);
        }
    }

    static void promise3OneWayBetweenTwoAlone() {
        landOf("w01,5;w01,5;", -2006);
        landOf("w01,5;w10,5;", -2006);
        landOf("w10,5;w01,9;", -2006);
        landOf("w01,1;w01,1;", -2006);
        landOf("w01,1;w10,200;", -2006);
        landOf("w01,5;w02,5;w12,5;", 3);
        AgesByMiles x = with("w23,5;");
        landHere(x, "w23,6;", -2000);
        landHere(x, "w32,4;", -2000);
        due("WAYS", x.count(1), 1);
        due("it stays", x.far(2, 3), 5);
    }

    static void promise3Ways14AtMost() {
        AgesByMiles x = with("n8;w01,1;w02,1;w03,1;w04,1;w05,1;w06,1;w07,1;", "w12,1;w13,1;w14,1;w15,1;w16,1;w17,1;");
        due("WAYS", x.count(1), 13);
        landHere(x, "w23,1;w24,1;", -2006);
        due("WAYS stay", x.count(1), 13);
        landHere(x, "w23,1;", 1);
        due("WAYS", x.count(1), 14);
        landHere(x, "w24,1;", -2000);
        landHere(x, "n8;to00,0;w67,200;", -2010);
        due("WAYS stay", x.count(1), 14);
        due("THINGS stay", x.count(2), 0);
    }

    static void promise3ThingAtAPlaceThatThereIs() {
        landOf("to31,0;", 1);
        landOf("to41,0;", -2000);
        landOf("n5;to41,0;", 2);
        landOf("n8;to71,0;", 2);
        landOf("n8;to81,0;", -2003);
        landOf("n2;to21,0;", -2003);
    }

    static void promise3WorthFrom0To99() {
        AgesByMiles x = with("to00,0;to000,0;to01,0;to099,0;");
        int[] worths = {0, 0, 1, 99};
        for (int i = 0; i < 4; i++) {
            due("WORTH of " + i, x.thing(i, 2), worths[i]);
        }
    }

    static void promise3AskFrom0To999() {
        AgesByMiles x = with("ty00,0;ta00,999;to00,999;tg00,500;tl00,001;");
        int[] asks = {0, 999, 999, 500, 1};
        for (int i = 0; i < 5; i++) {
            due("ASK of " + i, x.thing(i, 3), asks[i]);
        }
    }

    static void promise3BehindAsksForAThingAheadOfIt() {
        landOf("tb01,0;", -2000);
        landOf("to01,0;tb01,0;", 2);
        landOf("to01,0;tb01,1;", -2007);
        landOf("to01,0;tb01,2;to01,0;", -2007);
        landOf("to01,0;tb01,0;tb01,1;", 3);
        landOf("to01,0;tb01,0;tb01,2;", -2014);
        AgesByMiles x = with("to01,0;to01,0;");
        landHere(x, "tb01,2;", -2000);
        landHere(x, "tb01,999;", -2000);
        landHere(x, "tb01,001;", 1);
        landHere(x, "tb01,2;", 1);
        due("ASK", x.thing(3, 3), 2);
    }

    static void promise3OnlyBehindNeedsWhatItAsks() {
        landOf("to01,7;ta01,7;ty01,7;tg01,7;tl01,7;", 5);
    }

    static void promise3Things7AtMost() {
        String six = "to01,0;ta01,0;ty01,0;tg01,0;tl01,0;to01,0;";
        AgesByMiles x = with(six);
        landHere(x, "to01,0;to01,0;", -2007);
        due("THINGS stay", x.count(2), 6);
        landHere(x, "tb01,5;", 1);
        due("THINGS", x.count(2), 7);
        landHere(x, "to01,0;", -2000);
        landHere(x, "w01,5;n4;tl01,0;", -2009);
        due("WAYS stay", x.count(1), 0);
        landHere(x, "n4;", 1);
        due("all of them stay", x.thing(6, 0), 2);
        due("and what the last asks", x.thing(6, 3), 5);
        due("no eighth", x.thing(7, 0), -1);
        landOf(six + "to01,0;", 7);
        landOf(six + "to01,0;to01,0;", -2049);
    }

    static void promise3ThingsMayBeAlike() {
        landOf("to01,0;to01,0;to01,0;", 3);
    }

    static void promise3FirstOfSeveralThatAreNot() {
        landOf("n9;w00,5;", -2000);
        landOf("n9;n9;", -2000);
        landOf("n4;n9;w00,0;to90,0;", -2003);
        landOf("n4;w00,5;n9;", -2003);
        landOf("n4;n4;to90,0;w00,5;", -2006);
        landOf("n4;w01,5;w01,5;w01,0;", -2009);
    }

    static void promise3AllComesOrNothing() {
        AgesByMiles x = with("n5;w01,50;to110,0;");
        landHere(x, "n7;w12,5;ta24,0;n9;", -2016);
        landHere(x, "n7;w12,5;ta24,0;n", -1017);
        due("PLACES stay", x.count(0), 5);
        due("WAYS stay", x.count(1), 1);
        due("THINGS stay", x.count(2), 1);
        due("FAR stays", x.far(1, 2), -9);
        due("no THING more", x.thing(1, 0), -1);
        landHere(x, "n7;w12,5;ta24,0;", 3);
        due("PLACES", x.count(0), 7);
        due("WAYS", x.count(1), 2);
        due("THINGS", x.count(2), 2);
        due("FAR", x.far(0, 2), 55);
        due("a THING more", x.thing(1, 2), 4);
    }

    static void promise3TapeHasNoneByAFaultToo() {
        for (String text : new String[] {"n4;", "n9;", "x", "n4", "w01,1"}) {
            AgesByMiles x = new AgesByMiles();
            tell(x, text);
            due("the tape behind '" + text + "'", x.count(7), 0);
            landHere(x, "n5;", 1);
        }
    }

    static void promise3LettersOfTheTapeAheadAreNothingToIt() {
        String[] whole = {"n8;", "w01,123;", "to012,345;"};
        for (String[] row : BEGINNINGS) {
            for (String text : whole) {
                AgesByMiles x = with(text);
                landHere(x, row[0], -1000 - row[0].length());
            }
        }
    }

    static void promise3EndOf64BytesThatLacks() {
        for (String[] row : BEGINNINGS) {
            if (!row[0].isEmpty()) {
                StringBuilder text = new StringBuilder();
                String[] fill = {"", "to01,1;", "to01,1;to01,1;"};
                text.append(fill[(64 - row[0].length()) % 3]);
                while (text.length() + row[0].length() < 64) {
                    text.append("n4;");
                }
                text.append(row[0]);
                due("bytes", text.length(), 64);
                landHere(new AgesByMiles(), text.toString(), -1064);
            }
        }
    }

    static void promise3AFaultIsNotCounted() {
        AgesByMiles x = new AgesByMiles();
        landHere(x, "x", -1000);
        landHere(x, "n9;", -2000);
        landHere(x, "w01,0;", -2000);
        due("land()", x.land(), -1000);
        for (int what = 11; what <= 16; what++) {
            due("count(" + what + ")", x.count(what), 0);
        }
    }

    static void promise3TheLifeAtHandGoesOn() {
        AgesByMiles x = with("w01,5;to13,0;");
        x.go(1);
        x.have(0);
        landHere(x, "n8;w12,5;to14,0;", 3);
        due("PLACE", x.life(0), 1);
        due("AGE", x.life(1), 5);
        due("WORTH", x.life(2), 3);
        due("had", x.thing(0, 4), 1);
        due("the new one is not had", x.thing(1, 4), 0);
        due("and is to be had", x.have(1), 4);
    }

    static void promise3AllElseThatIsToldStays() {
        AgesByMiles x = with("w01,5;to02,0;");
        x.set(0, 11);
        x.set(1, 22);
        x.set(2, 333);
        x.set(3, 1);
        x.order(3, 310);
        x.call(1, 2, 30);
        x.person(1, 22);
        x.person(0, 11);
        landHere(x, "n5;", 1);
        due("WAYS", x.count(1), 1);
        due("FAR", x.far(0, 1), 5);
        due("THING", x.thing(0, 2), 2);
        due("all of the ORDER", x.lived(2, 1), 10);
        due("PAY", x.calls(0, 1, 0), 30);
        due("PRICE of a mile", x.send(0, 1), 0);
        due("the second one", x.send(0, 0), 1);
        due("the first one", x.send(1, 0), 0);
        x.set(2, 21);
        due("its miles gone", x.send(1, 0), 1);
        due("miles gone of the second one", x.send(1, 1), 30);
        due("GROWN", x.set(0, 11), 11);
        due("OLD", x.set(1, 22), 22);
        due("HOME", x.set(3, 1), 1);
        due("PLACES in the ORDER", x.order(0, 0), 3);
        due("WEIGHT", x.call(1, 0, 0), 2);
    }

    static void promise3FewerPlacesAndMoreAgain() {
        AgesByMiles x = with("n8;", "n2;", "n8;");
        due("far(0, 7)", x.far(0, 7), -9);
        due("far(7, 7)", x.far(7, 7), 0);
        landHere(x, "w17,3;", 1);
        due("far(7, 1)", x.far(7, 1), 3);
    }

    // Promise 4: "FAR; -9 none. -1 either."

    static void promise4ToItself() {
        AgesByMiles x = with("n8;w01,1;");
        for (int place = 0; place < 8; place++) {
            due("far(" + place + ", " + place + ")", x.far(place, place), 0);
        }
    }

    static void promise4None() {
        AgesByMiles x = with("n8;w01,5;w12,5;w34,5;w67,5;");
        String[] parts = {"012", "34", "5", "67"};
        for (int from = 0; from < 8; from++) {
            for (int to = 0; to < 8; to++) {
                boolean isWay = false;
                for (String part : parts) {
                    isWay |= part.indexOf('0' + from) >= 0 && part.indexOf('0' + to) >= 0;
                }
                int want = !isWay ? -9 : from == to ? 0 : Math.abs(from - to) == 2 ? 10 : 5;
                due("far(" + from + ", " + to + ")", x.far(from, to), want);
            }
        }
        due("nothing is counted", x.count(11), 0);
    }

    static void promise4EitherIsNobody() {
        int[] nobodies = {-1, 5, 8, Integer.MIN_VALUE, Integer.MAX_VALUE};
        AgesByMiles x = with("n5;w04,5;");
        int refused = 0;
        for (int nobody : nobodies) {
            due("far(" + nobody + ", 4)", x.far(nobody, 4), -1);
            due("far(4, " + nobody + ")", x.far(4, nobody), -1);
            due("far(" + nobody + ", " + nobody + ")", x.far(nobody, nobody), -1);
            refused += 3;
            due("refused", x.count(11), refused);
        }
        due("far(0, 4)", x.far(0, 4), 5);
    }

    static void promise4EitherWay() {
        AgesByMiles x = with("w02,7;w31,9;w12,1;");
        for (int from = 0; from < 4; from++) {
            for (int to = 0; to < 4; to++) {
                due("far(" + from + ", " + to + ")", x.far(from, to), x.far(to, from));
            }
        }
        due("0, 2, 1, 3", x.far(0, 3), 17);
    }

    static void promise4LeastMiles() {
        due("one less by two WAYS", with("w01,100;w12,99;w02,200;").far(0, 2), 199);
        due("alike", with("w01,100;w12,100;w02,200;").far(0, 2), 200);
        due("one less by one WAY", with("w01,100;w12,101;w02,200;").far(0, 2), 200);
    }

    static void promise4LongestThatThereIs() {
        AgesByMiles x = with("n8;w07,200;w71,200;w16,200;w62,200;w25,200;w53,200;w34,200;");
        due("all seven WAYS", x.far(0, 4), 1400);
        due("back", x.far(4, 0), 1400);
        due("six of them", x.far(0, 3), 1200);
        landHere(x, "w04,200;", 1);
        due("the other way round", x.far(0, 3), 400);
        due("half of the round", x.far(7, 5), 800);
    }

    static void promise4NewWaysComeAtOnce() {
        AgesByMiles x = with("w01,200;");
        landHere(x, "w12,1;w02,50;", 2);
        due("by the new ones", x.far(0, 1), 51);
    }

    // Promise 5: "Of a THING: 0 KIND .. 4 how often the LIFE at hand had it. -1; -2."

    static void promise5EachOfSeven() {
        AgesByMiles x = with("n8;to011,1;ta122,2;tb233,0;ty344,4;tg455,5;tl566,6;ta777,999;");
        int[][] want = {{0, 0, 11, 1}, {1, 1, 22, 2}, {2, 2, 33, 0}, {3, 3, 44, 4}, {4, 4, 55, 5}, {5, 5, 66, 6},
            {1, 7, 77, 999}};
        for (int i = 0; i < 7; i++) {
            for (int what = 0; what < 4; what++) {
                due("thing(" + i + ", " + what + ")", x.thing(i, what), want[i][what]);
            }
            due("not had", x.thing(i, 4), 0);
        }
        due("thing(7, 0)", x.thing(7, 0), -1);
    }

    static void promise5NoSuchThing() {
        AgesByMiles x = with("to01,0;to01,0;");
        int[] nobodies = {-1, 2, 7, Integer.MIN_VALUE, Integer.MAX_VALUE};
        for (int i = 0; i < nobodies.length; i++) {
            due("thing(" + nobodies[i] + ", 0)", x.thing(nobodies[i], 0), -1);
            due("refused", x.count(11), i + 1);
        }
        due("without THINGS", new AgesByMiles().thing(0, 0), -1);
        due("the last", x.thing(1, 2), 1);
    }

    static void promise5OtherWhat() {
        AgesByMiles x = with("to01,0;");
        int[] others = {-1, 5, Integer.MIN_VALUE, Integer.MAX_VALUE};
        for (int i = 0; i < others.length; i++) {
            due("thing(0, " + others[i] + ")", x.thing(0, others[i]), -2);
            due("refused", x.count(12), i + 1);
        }
    }

    static void promise5NobodyComesFirst() {
        AgesByMiles x = with("to01,0;");
        due("thing(1, 5)", x.thing(1, 5), -1);
        due("thing(-1, -1)", x.thing(-1, -1), -1);
        due("not the other", x.count(12), 0);
    }

    static void promise5HowOftenTheLifeAtHandHadIt() {
        AgesByMiles x = with("ta099,0;to00,0;");
        for (int i = 0; i < 7; i++) {
            due("had", x.thing(0, 4), i);
            x.have(0);
        }
        due("99, 49, 24, 12, 6, 3, 1", x.thing(0, 4), 7);
        x.have(0);
        due("no more", x.thing(0, 4), 7);
        x.have(1);
        due("ONCE", x.thing(1, 4), 1);
        x.nextLife();
        due("none in the NEXT LIFE", x.thing(0, 4), 0);
        due("none of the other", x.thing(1, 4), 0);
    }
}

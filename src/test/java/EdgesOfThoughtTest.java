/**
 * The edges of what is reckoned ahead: the told row empty and full, LOSS, OVER, BEST, FIRST SIDE,
 * MORE, PROP, INSTEAD, LOOK, RAIN, OUT, NIGHT; what is KEPT; how many there are. Promises 13 to 28.
 */
public final class EdgesOfThoughtTest {
    private static final Check CHECK = new Check();
    private static final int BAD = -1, NO = -2, FULL = -3, NONE = -4;
    /** Eight of 999 and 99 lives by 999, which bear 1; SKY 0 and all others bring 60 and 60. */
    private static final String DEAREST = dearest();
    private static final long ALL_THAT_IS = 8L * (999 + 999 * 99);

    private static void due(String call, long got, long want) {
        CHECK.due(call, got, want);
    }

    private static RoofsOfSnow laid(String text) {
        return Check.laid(text);
    }

    private static String dearest() {
        StringBuilder text = new StringBuilder("l999;h0,1;");
        for (int i = 0; i < 8; i++) {
            text.append("r0,0,0,999,999,8;b").append(i).append(",1,10;p").append(i).append(",99;");
        }
        return text + "k0,60,60,0;k1,60,60,0;k2,60,60,0;";
    }

    public static void main(String[] args) {
        row();
        lossByRows();
        lossAtTheEdge();
        lossOfMost();
        lossOfOne();
        overHours();
        overTenths();
        overCut();
        bestHours();
        bestSpots();
        bestNone();
        firstSide();
        more();
        props();
        instead();
        look();
        lookByOne();
        rain();
        rainOfWhom();
        out();
        outLess();
        draws();
        nightSkies();
        nightHours();
        nightEdges();
        kept();
        keptWhole();
        count();
        CHECK.end();
    }

    // ---- the told row

    /** "SKIES (12 at most)"; "The told row is empty: how many it had". */
    private static void row() {
        RoofsOfSnow x = laid("r0,0,0,999,1,8;b0,1,10;k1,2,0,0;h0,1;");
        for (int round = 0; round < 3; round++) {
            for (int n = 1; n <= 12; n++) {
                due("13 sky " + n, x.sky(round == 1 ? 1 : 0), n);
            }
            due("13 a 13th", x.sky(0), FULL);
            due("15 by the row as it is now", x.loss(4), round == 1 ? 1000000 : 0);
            due("14 twelve", x.noSkies(), 12);
            due("14 none then", x.noSkies(), 0);
            due("28 none", x.count(2), 0);
        }
        due("13 a shorter row", x.sky(0), 1);
        due("15 nothing of the row that was", x.loss(4), 0);
        x.keep();
        x.on(4, 0);
        x.back();
        due("14 one, whatever went by", x.noSkies(), 1);
    }

    // ---- LOSS

    /** By rows of 0 to 12 HOURS, each of which brings 1. */
    private static void lossByRows() {
        for (int bears = 1; bears <= 12; bears++) {
            RoofsOfSnow x = laid("r0,0,0,999,7,8;b0," + bears + ",10;k2,0,1,0;h0,1;");
            due("15 an empty row", x.loss(4), 0);
            for (int n = 1; n <= 12; n++) {
                x.sky(2);
                due("15 " + n + " HOURS, " + bears, x.loss(4), n > bears ? 7000000 : 0);
            }
        }
    }

    /** "of B below the greatest of its PRESSES (behind each of these HOURS)". */
    private static void lossAtTheEdge() {
        RoofsOfSnow x = laid("r10,0,0,20,9,8;b0,20,3;b0,21,3;b0,99,4;k1,11,0,0;k2,10,0,0;h0,1;");
        Check.skies(x, 1);
        due("15 21 slides down to 20 ahead of the end", x.loss(4), 0);
        x = laid("r10,0,0,99,9,8;b0,20,3;b0,21,3;b0,99,4;k1,11,0,0;k2,10,0,0;h0,1;");
        Check.skies(x, 2);
        due("15 20 is not below 20", x.loss(4), 0);
        Check.skies(x, 1);
        due("15 20 is below 21", x.loss(4), 2700000);
        Check.skies(x, 1, 0);
        due("15 21 as it was", x.loss(4), 2700000);
        Check.skies(x, 2, 2);
        due("15 both", x.loss(4), 5400000);
        // 15, then 5 and 26, then 21 and 11; or 15, 5, 26, 16.
        x = laid("r25,0,0,99,9,8;b0,30,10;h1,10;k1,26,0,0;");
        Check.skies(x, 0, 1, 0, 0);
        due("15 the middle HOUR", x.loss(3), 9000000);
        Check.skies(x, 0, 0, 1, 0);
        due("15 26 at most", x.loss(3), 0);
        // A prop that is done behind the second HOUR takes nothing off the first one's PRESS.
        x = laid("r15,0,0,99,9,8;b0,30,10;h0,1;k1,16,0,0;o200,2;");
        x.prop(0);
        Check.skies(x, 1, 0);
        due("15 31 ahead of the prop", x.loss(4), 9000000);
        Check.skies(x, 0, 1);
        due("15 31 with the prop", x.loss(4), 0);
    }

    /** As large as it gets: far more than 2147483647. */
    private static void lossOfMost() {
        RoofsOfSnow x = laid(DEAREST);
        due("15 none yet", x.loss(4), 0);
        x.sky(0);
        due("15 all of all", x.loss(4), ALL_THAT_IS * 1000000);
        due("15 that is", ALL_THAT_IS, 799200);
        due("16 all of all, 1", x.over(4, 1), ALL_THAT_IS * 1000000);
        due("16 all of all, 5", x.over(0, 5), ALL_THAT_IS * 1000000);
        due("17 all of all", x.best(1, -1), ALL_THAT_IS * 1000000);
        due("17 the first", x.best(1, 0), 0);
        due("19 all of all", x.more(0, 9), ALL_THAT_IS * 1000000);
        // 50 more for ROOF 7 are too few, and too late.
        due("21 all of all", x.instead(4, 7), ALL_THAT_IS * 1000000);
        due("22 nothing to know", x.look(7), 0);
        due("24 all in HOUR 1", x.out(7, 4, 100, 100, 0), 1);
        due("25 all lost", x.night(9999, 4, 24, 1), ALL_THAT_IS);
        due("25 all", x.night(9999, 4, 24, 0), 255);
        due("23 none holds", x.rain(1), 0);
        due("12 all are GONE", x.on(4, 2), 255);
        due("15 nothing is left", x.loss(4), 0);
        due("16 nothing is left", x.over(4, 5), 0);
        due("17 nothing is left", x.best(1, -1) * 100 + x.best(1, 0), 16);
        due("25 nothing is left", x.night(9999, 4, 24, 1), 0);
        due("23 none stands", x.rain(1), 0);
    }

    /** CHANCES of 1 in all, of 3, 7 and 9: "by all its CHANCES, cut". */
    private static void lossOfOne() {
        String[] bears = {"b0,5,9;b0,9,1;", "b0,5,7;b0,9,1;b0,99,2;", "b0,5,3;b0,9,6;b0,99,1;",
            "b0,5,1;b0,9,5;b0,99,4;", "b0,5,0;b0,9,1;b0,99,9;"};
        long[] lost = {1000000, 333333, 857142, 555555, 100000};
        for (int j = 0; j < bears.length; j++) {
            RoofsOfSnow x = laid("r6,0,0,99,1,8;" + bears[j] + "k1,4,0,0;h0,1;");
            x.sky(1);
            due("15 by " + bears[j], x.loss(4), lost[j]);
        }
        // A WORTH of 2 is cut once, two ROOFS of 1 are cut twice.
        RoofsOfSnow x = laid("r6,0,0,99,2,8;" + bears[1] + "k1,4,0,0;h0,1;");
        x.sky(1);
        due("15 cut once", x.loss(4), 666666);
        x = laid("r6,0,0,99,2,8;r6,0,0,99,2,8;" + bears[1] + bears[1].replace("b0", "b1") + "k1,4,0,0;h0,1;");
        x.sky(1);
        due("15 cut each", x.loss(4), 1333332);
    }

    // ---- OVER

    /** "n HOURS (1 to 5)", each of which brings 1. */
    private static void overHours() {
        for (int bears = 1; bears <= 5; bears++) {
            RoofsOfSnow x = laid("r0,0,0,999,7,8;b0," + bears + ",10;k0,1,0,0;k1,0,1,0;k2,1,0,0;h0,1;");
            for (int n = 1; n <= 5; n++) {
                due("16 " + n + " HOURS, " + bears, x.over(4, n), n > bears ? 7000000 : 0);
            }
            due("16 6 HOURS", x.over(4, 6), BAD);
        }
    }

    /** "the product of its tenths", "the first one behind the SKY that is now, and so on". */
    private static void overTenths() {
        // SKY 1 five times by a half each: 999000000 by 32.
        RoofsOfSnow x = laid("r0,0,0,999,999,8;b0,4,10;k1,1,0,0;h0,1;c0,5,5,0;c1,5,5,0;");
        due("16 a 32nd", x.over(4, 5), 31218750);
        due("16 none in four", x.over(4, 4), 0);
        // By 10, 9, 8, 7, 6 tenths: 2, 0, 1, 2, 0; each brings 1, any else brings none.
        x = laid("r0,0,0,999,1,8;b0,4,10;k0,1,0,0;k1,0,1,0;k2,1,0,0;h0,1;s1;c1,0,0,10;c2,10,0,0;"
                + "c0,0,10,0;");
        due("16 one row alone", x.over(4, 5), 1000000);
        // No tenths: no part of it, however much it would bring.
        x = laid("r0,0,0,999,1,8;b0,4,10;k1,60,0,0;h0,1;c0,5,0,5;c2,9,1,0;");
        due("16 0, then 1 never", x.over(4, 1), 0);
        due("16 2, then 1", x.over(4, 2), 50000);
        // From the SKY that is now, not from the one told.
        x.on(4, 2);
        due("16 now 2", x.over(4, 1), 100000);
        due("16 whatever row is told", x.sky(1) + x.over(4, 1), 100001);
    }

    /** "by 10 (n times), cut": each LOSS is cut, then all together once. */
    private static void overCut() {
        String third = "r6,0,0,999,1,8;b0,5,7;b0,8,1;b0,99,2;k0,3,0,0;h0,1;";
        due("16 333333 by 1 tenth", laid(third + "c0,1,9,0;").over(4, 1), 33333);
        due("16 333333 by 3 tenths", laid(third + "c0,3,7,0;").over(4, 1), 99999);
        due("16 333333 by 9 tenths", laid(third + "c0,9,1,0;").over(4, 1), 299999);
        due("16 333333 by 10", laid(third + "c0,10,0,0;").over(4, 5), 333333);
        // 0 and 0 by 1, 0 and 1 by 9: 10 times 333333; 1 and 1 by 90: none.
        due("16 by two HOURS", laid(third + "c0,1,9,0;c1,0,10,0;").over(4, 2), 33333);
        // SKY 1 five times by a tenth each: 3 and a third.
        due("16 next to none", laid("r6,0,0,999,1,8;b0,5,7;b0,10,1;b0,99,2;k1,1,0,0;h0,1;c0,9,1,0;"
                + "c1,9,1,0;").over(4, 5), 3);
        due("16 none", laid("r6,0,0,999,0,8;b0,8,10;k0,3,0,0;h0,1;").over(4, 5), 0);
    }

    // ---- BEST

    /** "BEST for n HOURS (1 to 3) by the told row of SKIES (its first n)". */
    private static void bestHours() {
        RoofsOfSnow x = laid("r0,0,0,999,7,8;b0,3,10;k1,2,0,0;k2,9,0,0;h0,1;");
        for (int skies = 0; skies <= 12; skies++) {
            for (int n = 1; n <= 3; n++) {
                // 2, 4, 6 behind the first three.
                long lost = n > skies ? NO : n == 1 ? 0 : 7000000;
                due("17 " + n + " of " + skies, x.best(n, -1), lost);
                due("17 HOUR " + (n - 1) + " of " + skies, x.best(n, n - 1), n > skies ? NO : 0);
                due("17 HOUR 0 of " + skies, x.best(n, 0), n > skies ? NO : 0);
                due("17 HOUR " + n, x.best(n, n), BAD);
            }
            // Behind the first three it is of no account.
            x.sky(skies < 3 ? 1 : 2);
        }
    }

    /** "numbered 2 ROOF and SIDE": that SIDE alone which is to be cleared, up to 15. */
    private static void bestSpots() {
        for (int roof = 0; roof < 8; roof++) {
            StringBuilder text = new StringBuilder("h1,5;k1,5,5,0;");
            for (int i = 0; i < 8; i++) {
                text.append(i == roof ? "r5,9,0,99,1,8;" : "r5,5,0,99,1,8;");
            }
            RoofsOfSnow x = laid(text + "b" + roof + ",19,10;");
            x.sky(1);
            // 14 and 10, less 5: 19 by either SIDE of that ROOF; the lower one is first.
            due("17 ROOF " + roof, x.best(1, 0), 2 * roof);
            due("17 none lost", x.best(1, -1), 0);
        }
        // By the uneven ones the SIDE itself counts.
        for (int spot = 0; spot < 16; spot++) {
            StringBuilder text = new StringBuilder("h1,4;");
            for (int i = 0; i < 8; i++) {
                text.append(2 * i == spot ? "r9,5,20,99,1,8;" : 2 * i + 1 == spot ? "r5,9,20,99,1,8;"
                        : "r5,5,0,99,1,8;");
            }
            // 22 now; with 1 and 1 more 12 by that SIDE, 28 by the other one, 24 by none.
            text.append("b").append(spot / 2).append(",22,10;k0,1,1,0;");
            RoofsOfSnow x = laid(text.toString());
            x.sky(0);
            due("17 spot " + spot, x.best(1, 0), spot);
            due("17 none lost by " + spot, x.best(1, -1), 0);
        }
        // Two HOURS, ROOF 7 first, then ROOF 6: of these the one that can't wait.
        String two = "r1,1,0,99,1,8;".repeat(6) + "r10,0,0,99,3,8;r10,0,0,99,2,8;b6,18,10;b7,13,10;";
        RoofsOfSnow x = laid(two + "h1,10;k1,5,0,0;");
        Check.skies(x, 1, 1);
        due("17 ROOF 7, then ROOF 6", x.best(2, 0) * 100 + x.best(2, 1), 1412);
        due("17 neither is lost", x.best(2, -1), 0);
        Check.skies(x, 1, 1, 1);
        due("17 three HOURS", x.best(3, 0) * 10000 + x.best(3, 1) * 100 + x.best(3, 2), 141214);
        due("17 neither is lost then: 5 and 10", x.best(3, -1), 0);
    }

    /** "16: none", "the first of such". */
    private static void bestNone() {
        // 10 and 5 come on 5 and 10; to be cleared once, then left alone.
        RoofsOfSnow x = laid("r10,10,20,999,9,8;b0,22,10;h1,5;k1,5,0,0;");
        Check.skies(x, 1, 0);
        due("17 SIDE 0, then none", x.best(2, 0) * 100 + x.best(2, 1), 16);
        due("17 none lost", x.best(2, -1), 0);
        Check.skies(x, 0, 1);
        due("17 none, then SIDE 0", x.best(2, 0) * 100 + x.best(2, 1), 1600);
        Check.skies(x, 0, 0, 0);
        due("17 never", x.best(3, 0) * 10000 + x.best(3, 1) * 100 + x.best(3, 2), 161616);
        // ROOFS that are GONE are none of these; another one is, also where nothing lies.
        x = laid("r9,0,0,99,9,8;r0,0,0,99,9,8;b0,8,10;");
        Check.skies(x, 0, 0, 0);
        due("17 ROOF 1", x.best(3, 0) * 10000 + x.best(3, 1) * 100 + x.best(3, 2), 20202);
        x = laid("r9,0,0,99,9,8;r9,0,0,99,9,8;b0,8,10;b1,8,10;");
        Check.skies(x, 0, 0, 0);
        due("17 all GONE", x.best(3, 0) * 10000 + x.best(3, 1) * 100 + x.best(3, 2), 161616);
        due("17 all GONE, nothing lost", x.best(3, -1), 0);
    }

    // ---- FIRST SIDE, MORE

    /** "the SIDE by which .. LOSS is less (0 of like ones)". */
    private static void firstSide() {
        // By SIDE 0 38, 37, 36, 35, 34, 33; by SIDE 1 26, 29, 32, 35, 38, 41; 33 is borne.
        int[] less = {1, 1, 1, 0, 0, 0};
        for (int more = 0; more < less.length; more++) {
            RoofsOfSnow x = laid("r" + (10 + more) + ",13,20,999,9,8;b0,33,10;h1,3;k1,3,3,0;");
            x.sky(1);
            due("18 by " + (10 + more) + " and 13", x.first(0), less[more]);
        }
        // The same of ROOF 7; DEEP clears ROOF 0 from the second HOUR on.
        for (int more = 0; more < less.length; more++) {
            RoofsOfSnow x = laid("r99,0,0,999,0,8;" + "r0,0,0,999,0,8;".repeat(6) + "r" + (10 + more)
                    + ",13,20,999,9,8;b7,33,10;h1,3;k1,3,3,0;");
            Check.skies(x, 1, 0, 0);
            due("18 ROOF 7 by " + (10 + more) + " and 13", x.first(7), less[more]);
        }
        // By SIDE 1 10, 10, then DEEP at SIDE 0: 15, 10; not 25, 10 by none. By SIDE 0 0, 20: 60.
        RoofsOfSnow x = laid("r10,20,20,999,9,8;b0,50,10;h1,10;k1,15,0,0;");
        Check.skies(x, 0, 1);
        due("18 then by DEEP, SIDE 1", x.first(0), 1);
        // By either SIDE 10 and 20, then DEEP: 15, 15; not 15, 25 by none or 5, 25 by the same one.
        x = laid("r20,20,20,999,9,8;b0,50,10;h1,10;k1,5,5,0;");
        Check.skies(x, 0, 1);
        due("18 then by DEEP, like ones", x.first(0), 0);
        x = laid("r10,10,0,999,9,8;r0,9,0,99,0,8;b0,25,10;h0,1;k1,9,0,0;");
        x.sky(1);
        due("18 no hands", x.first(0), 0);
        due("18 nothing lies", x.first(1), 0);
        x.noSkies();
        due("18 no row", x.first(0), NO);
    }

    /** "LOSS by a RULE with so many hands more (0 to 9)": nine and nine are eighteen. */
    private static void more() {
        RoofsOfSnow x = laid("r200,0,0,999,9,8;b0,200,10;h9,3;k0,54,0,0;");
        x.sky(0);
        for (int hands = 0; hands <= 9; hands++) {
            due("19 " + hands + " more", x.more(3, hands), hands == 9 ? 0 : 9000000);
        }
        due("19 none more", x.more(3, 0), x.loss(3));
        due("19 the hands stay", x.now(2), 9);
        // In each HOUR: 100 and 9, less 6; twice.
        x = laid("r100,0,0,999,9,8;b0,106,10;h1,3;k0,9,0,0;");
        Check.skies(x, 0, 0);
        due("19 112", x.loss(3), 9000000);
        due("19 106", x.more(3, 1), 0);
        x.noSkies();
        due("19 an empty row", x.more(0, 9), 0);
        x = laid("r100,0,0,999,9,8;b0,100,10;h0,50;k0,50,0,0;");
        x.sky(0);
        due("19 of none", x.more(3, 0), 9000000);
        due("19 one of none", x.more(3, 1), 0);
    }

    // ---- PROP, INSTEAD

    /** "PROP at a ROOF (for good; 3 at most at one): it adds P in N HOURS". */
    private static void props() {
        RoofsOfSnow x = laid("r0,0,0,9,0,8;r0,0,0,9,0,8;o7,2;");
        due("20 first", x.prop(0), 1);
        due("6 none done", x.roof(0, 3) * 10 + x.roof(0, 4), 1);
        x.on(0, 0);
        due("20 second", x.prop(0), 2);
        due("6 none done yet", x.roof(0, 3) * 10 + x.roof(0, 4), 2);
        x.on(0, 0);
        due("6 one done", x.roof(0, 3) * 10 + x.roof(0, 4), 72);
        due("20 third", x.prop(0), 3);
        due("20 fourth", x.prop(0), FULL);
        x.on(0, 0);
        due("6 two done", x.roof(0, 3) * 10 + x.roof(0, 4), 143);
        x.on(0, 0);
        due("6 three done", x.roof(0, 3) * 10 + x.roof(0, 4), 213);
        due("20 for good", x.prop(0), FULL);
        due("20 at one: the other has none", x.roof(1, 4), 0);
        due("20 at the other", x.prop(1), 1);
    }

    /** "LOSS by a RULE with a prop put at a ROOF now and one hand fewer (0 at least)". */
    private static void instead() {
        for (int hands = 0; hands <= 9; hands++) {
            // What is cleared comes again: 20; by one hand fewer 21, by the prop 20.
            RoofsOfSnow x = laid("r20,0,0,999,9,8;b0,20,10;k1," + hands + ",0,0;h" + hands + ",1;o1,1;");
            Check.skies(x, 1);
            due("15 " + hands + " hands", x.loss(3), 0);
            due("21 the prop for one of " + hands, x.instead(3, 0), 0);
            x = laid("r20,0,0,999,9,8;b0,20,10;k1," + hands + ",0,0;h" + hands + ",1;o0,1;");
            Check.skies(x, 1);
            due("21 a prop of none for one of " + hands, x.instead(3, 0), hands == 0 ? 0 : 9000000);
        }
        // In the first HOUR alone: 20, less 10, and 10; then less 20, and 20.
        RoofsOfSnow x = laid("r20,0,0,999,9,8;b0,20,10;k1,10,0,0;k2,20,0,0;h2,10;o1,20;");
        Check.skies(x, 1, 2);
        due("21 both hands in the second HOUR", x.instead(3, 0), 0);
        Check.skies(x, 2);
        due("21 30 by one hand", x.instead(3, 0), 9000000);
        // N HOURS: in time for HOUR N.
        for (int n = 1; n <= 3; n++) {
            x = laid("r20,0,0,999,9,8;b0,20,10;k1,5,0,0;h0,1;o5," + n + ";");
            for (int hour = 1; hour <= 3; hour++) {
                x.noSkies();
                for (int t = 1; t < hour; t++) {
                    x.sky(0);
                }
                x.sky(1);
                due("21 in HOUR " + hour + " by " + n, x.instead(4, 0), hour < n ? 9000000 : 0);
            }
        }
        x.prop(0);
        x.prop(0);
        due("21 a third can be thought of", x.instead(4, 0), 0);
        due("21 it is not put", x.prop(0), 3);
        due("21 FULL", x.instead(4, 0), FULL);
        x.noSkies();
        due("21 FULL, an empty row", x.instead(4, 0), FULL);
    }

    // ---- LOOK

    /** By the first SKY alone; "each B that stays". */
    private static void look() {
        String two = "r15,0,0,999,10,8;r15,0,0,999,3,8;b1,18,10;k1,4,0,0;k2,60,60,0;h1,10;";
        // BEST clears ROOF 1: 1 of 10. By 18 alone 3000000, by 99 alone none.
        RoofsOfSnow x = laid(two + "b0,18,1;b0,99,9;");
        x.sky(1);
        due("17 1 of 10", x.best(1, -1), 1000000);
        due("22 by one tenth", x.look(0), 700000);
        x.sky(2);
        due("22 the first SKY alone", x.look(0), 700000);
        due("22 of the other: nothing to know", x.look(1), 0);
        // A B of no tenths is worth nothing to know; one that is out as well.
        x = laid(two + "b0,18,0;b0,99,10;");
        x.sky(1);
        due("22 by no tenths", x.look(0), 0);
        x = laid(two + "b0,14,5;b0,99,5;");
        x.sky(1);
        due("22 14 is out", x.look(0), 0);
        // 14 is out: 1 and 4 of 5: 2000000; known 18: 3000000, known 99: none.
        x = laid(two + "b0,14,5;b0,18,1;b0,99,4;");
        x.sky(1);
        due("17 1 of 5", x.best(1, -1), 2000000);
        due("22 by 1 of 5", x.look(0), 1400000);
    }

    /** CHANCES of 1 in all, of one B alone, and what is cut. */
    private static void lookByOne() {
        RoofsOfSnow x = laid("r15,0,0,999,10,8;b0,14,9;b0,18,1;k1,9,0,0;h0,1;");
        x.sky(1);
        due("17 all of it", x.best(1, -1), 10000000);
        due("22 1 in all", x.look(0), 0);
        // BEST clears ROOF 1, whatever is known: 1 of 3; by 18 alone 1000000, by 99 alone none.
        x = laid("r15,0,0,999,1,8;r15,0,0,999,3,8;b0,14,7;b0,18,1;b0,99,2;b1,18,10;k1,4,0,0;h1,10;");
        x.sky(1);
        due("17 a third", x.best(1, -1), 333333);
        // 999999 less 1000000, by 3, cut: none.
        due("22 cut to none", x.look(0), 0);
        // BEST clears ROOF 0 (2 of 3 by 4): 2000000; by 18 alone as well, by 99 alone ROOF 1: none.
        x = laid("r15,0,0,999,4,8;r15,0,0,999,2,8;b0,14,7;b0,18,2;b0,99,1;b1,18,10;k1,4,0,0;h1,10;");
        x.sky(1);
        due("17 2 whole", x.best(1, -1), 2000000);
        due("22 6 less 4, by 3, cut", x.look(0), 666666);
        x.noSkies();
        due("22 no row", x.look(0), NO);
        // No hands: nothing can be done better.
        x = laid("r15,0,0,999,10,8;b0,18,5;b0,99,5;k1,9,0,0;h0,1;");
        x.sky(1);
        due("22 no hands", x.look(0), 0);
    }

    // ---- RAIN

    /** "RAIN for n HOURS (1 to 9) of SKY 2", each of which brings 1 on ROOFS that bear 2 to 9. */
    private static void rain() {
        StringBuilder text = new StringBuilder("h9,50;k0,60,60,9;k1,60,60,9;k2,0,1,0;");
        for (int i = 0; i < 8; i++) {
            text.append("r0,0,0,99,0,8;b").append(i).append(',').append(i + 2).append(",10;");
        }
        RoofsOfSnow x = laid(text.toString());
        int[] hold = {255, 255, 254, 252, 248, 240, 224, 192, 128};
        for (int n = 1; n <= 9; n++) {
            due("23 " + n + " HOURS", x.rain(n), hold[n - 1]);
        }
        due("23 0", x.rain(0), BAD);
        due("23 10", x.rain(10), BAD);
        x.on(4, 2);
        due("23 from what lies now", x.rain(8), 128);
        due("23 none", x.rain(9), 0);
    }

    /** "ROOFS that stand none of whose CHANCES is of B below the greatest PRESS". */
    private static void rainOfWhom() {
        RoofsOfSnow x = laid("r9,0,0,99,0,8;r9,0,0,99,0,8;r9,0,0,99,0,8;r9,0,0,99,0,8;b0,8,10;"
                + "b1,10,0;b1,99,10;b2,8,9;b2,99,1;b3,10,1;b3,99,9;k2,2,0,0;");
        due("23 not GONE; no tenths; out; one tenth", x.rain(1), 2 + 4);
        // The greatest, not the last: 10 and 1 are 11 and 18, then 10 and 2 are 12 and 16, ..
        x = laid("r6,0,20,10,0,8;r6,0,20,10,0,8;b0,28,10;b1,29,10;k2,5,1,0;");
        for (int n = 1; n <= 9; n++) {
            due("23 29 in the first of " + n, x.rain(n), 2);
        }
        // 15 and 18 now, less in each HOUR.
        x = laid("r0,5,20,99,0,8;r0,6,20,99,0,8;b1,18,10;b0,15,1;b0,16,9;k2,1,0,0;");
        due("23 less and less", x.rain(5), 3);
        // A prop that is done in the second HOUR comes too late for the first one.
        x = laid("r9,0,0,99,0,8;b0,10,10;k2,2,0,0;o50,2;");
        x.prop(0);
        due("23 11", x.rain(1), 0);
        due("23 11 ahead of the prop", x.rain(2), 0);
        x.on(4, 0);
        due("23 with the prop", x.rain(9), 1);
        // Creaks count: not heard puts out what would be below.
        x = laid("r9,0,0,99,0,8;b0,10,5;b0,99,5;k2,2,0,0;g2;");
        due("23 10 is below 11", x.rain(1), 0);
        x.creak(0, false);
        due("23 10 is out", x.rain(1), 1);
    }

    // ---- OUT

    /** "the first HOUR (1 the first) behind which the part .. is a of b or more". */
    private static void out() {
        RoofsOfSnow x = laid("r6,0,0,99,0,8;b0,5,1;b0,10,3;b0,20,3;b0,30,3;k1,5,0,0;k2,4,0,0;h0,1;");
        Check.skies(x, 2, 0, 1, 0, 1, 1, 0, 1);
        // 10, 10, 15, 15, 20, 25, 25, 30 : 3 of 9 behind HOUR 3, 6 behind HOUR 6.
        int[][] cases = {{1, 100, 3}, {1, 3, 3}, {33, 99, 3}, {33, 100, 3}, {34, 100, 6}, {34, 99, 6},
            {2, 3, 6}, {66, 100, 6}, {66, 99, 6}, {67, 100, NONE}, {100, 100, NONE}, {1, 1, NONE}};
        for (int[] c : cases) {
            due("24 " + c[0] + " of " + c[1], x.out(0, 4, c[0], c[1], 0), c[2]);
        }
        x.sky(1);
        due("24 all behind HOUR 9", x.out(0, 4, 1, 1, 0), 9);
        due("24 100 of 100 too", x.out(0, 4, 100, 100, 0), 9);
        // Twelve HOURS at most, the last one as well.
        x = laid("r0,0,0,99,0,8;b0,11,10;k1,1,0,0;h0,1;");
        for (int n = 1; n <= 12; n++) {
            due("24 none by " + (n - 1), x.out(0, 4, 1, 1, 0), NONE);
            x.sky(1);
        }
        due("24 HOUR 12", x.out(0, 4, 1, 1, 0), 12);
        due("24 HOUR 12 less 9", x.out(0, 4, 1, 1, 9), 3);
        // "the greatest PRESS so far": it was above that in HOUR 1.
        x = laid("r10,0,0,99,0,8;b0,14,5;b0,99,5;k1,5,0,0;h1,9;");
        Check.skies(x, 1, 0, 0);
        due("24 15 in HOUR 1", x.out(0, 4, 1, 2, 0), 1);
        due("24 by TOLD never", x.out(0, 3, 1, 2, 0), NONE);
    }

    /** "less w HOURS (0 to 9) that it takes to get people out; none (also below 0)". */
    private static void outLess() {
        for (int hour = 1; hour <= 12; hour++) {
            RoofsOfSnow x = laid("r0,0,0,99,0,8;b0,4,10;k1,5,0,0;h0,1;");
            for (int t = 1; t < hour; t++) {
                x.sky(0);
            }
            x.sky(1);
            for (int w = 0; w <= 9; w++) {
                due("24 HOUR " + hour + " less " + w, x.out(0, 4, 1, 1, w), w > hour ? NONE : hour - w);
            }
        }
    }

    // ---- NIGHT

    /**
     * "((x times x) modulo 65521) modulo 10000", "modulo all its CHANCES": of 7 that stay 1, 2, 4 for
     * 10, 20, 30. DRAW(i, 99) of ROOFS 0 to 7 by 0: 6728, 9034, 4187, 2187, 3034, 2249, 8790, 3699;
     * by 1: 3735, 5852, 816, 4148, 4806, 3832, 184, 4904; by 9998: 2501, 4819, 5505, 9038, 5418,
     * 4645, 2240, 7161; by 9999: 4006, 1656, 2153, 5497, 7209, 6247, 8132, 8385.
     */
    private static void draws() {
        // WORTH of 1, 2, 4, .. 128: what is lost is told by the same bits.
        StringBuilder text = new StringBuilder("h0,1;c0,10,0,0;c1,0,10,0;k0,5,0,0;k1,15,0,0;");
        for (int i = 0; i < 8; i++) {
            text.append("r6,0,0,99,").append(1 << i).append(",8;");
            text.append("b#,5,3;b#,10,1;b#,20,2;b#,30,4;".replace('#', (char) ('0' + i)));
        }
        RoofsOfSnow x = laid(text.toString());
        int[] by = {0, 1, 9998, 9999};
        int[] ten = {0, 2, 208, 0};
        int[] twenty = {37, 66, 217, 9};
        for (int j = 0; j < by.length; j++) {
            due("25 above 10 by " + by[j], x.night(by[j], 4, 1, 0), ten[j]);
            due("25 lost by " + by[j], x.night(by[j], 4, 1, 1), ten[j]);
        }
        x = laid(text + "s1;");
        for (int j = 0; j < by.length; j++) {
            due("25 above 20 by " + by[j], x.night(by[j], 4, 1, 0), twenty[j]);
            due("25 lost by 20 and " + by[j], x.night(by[j], 4, 1, 1), twenty[j]);
        }
        due("25 -1", x.night(-1, 4, 1, 0), BAD);
        due("25 10000", x.night(10000, 4, 1, 0), BAD);
    }

    /**
     * "the SKY of HOUR t (now and on) is the first behind the one ahead by which DRAW(t, 98) modulo 10
     * is below the tenths so far together": by 0 8170, 9104, 8406 in HOURS 0, 1, 2 and 9741, 2719 in
     * 23, 24; by 9999 2609, 8887, 8012 and 529, 8851.
     */
    private static void nightSkies() {
        StringBuilder text = new StringBuilder("h0,1;k0,1,0,0;k1,2,0,0;k2,4,0,0;");
        for (int i = 0; i < 8; i++) {
            text.append("r0,0,0,99,0,8;b").append(i).append(',').append(i + 1).append(",10;");
        }
        // By 4, 3, 3: 0 and 1 and 1 (4 is not below 4, 6 is below 7); 2 (7 is not) and 2 and 0.
        RoofsOfSnow x = laid(text.toString());
        int[] zero = {0, 3, 15};
        int[] most = {7, 127, 255};
        for (int n = 1; n <= 3; n++) {
            due("25 by 0, " + n + " HOURS", x.night(0, 4, n, 0), zero[n - 1]);
            due("25 by 9999, " + n + " HOURS", x.night(9999, 4, n, 0), most[n - 1]);
        }
        // No tenths: never that SKY. By 0 0, 4, 6.
        x = laid(text + "c0,0,5,5;c1,0,4,6;c2,7,0,3;");
        // 1: 2; behind 1 by 4, not below 4: 2: 6; behind 2 by 6: 0: 7.
        due("25 2", x.night(0, 4, 1, 0), 1);
        due("25 2 and 4", x.night(0, 4, 2, 0), 31);
        due("25 2 and 4 and 1", x.night(0, 4, 3, 0), 63);
        // From HOUR 23 on: by 0 1 and 9, SKIES 0 and 2; by 9999 9 and 1, SKIES 2 and 0.
        x = laid("h0,1;k0,1,0,0;k2,4,0,0;r0,0,0,99,0,8;r0,0,0,99,0,8;r0,0,0,99,0,8;b0,3,10;b1,4,10;"
                + "b2,5,10;");
        for (int hour = 0; hour < 23; hour++) {
            x.on(4, 1);
        }
        due("25 HOUR 23", x.now(0), 23);
        due("25 by 0 one", x.night(0, 4, 1, 0), 0);
        due("25 by 0 five", x.night(0, 4, 2, 0), 3);
        due("25 by 9999 four", x.night(9999, 4, 1, 0), 1);
        due("25 by 9999 five", x.night(9999, 4, 2, 0), 3);
    }

    /** "n HOURS (1 to 24)", each of which brings 1. */
    private static void nightHours() {
        RoofsOfSnow x = laid("r0,0,0,999,5,8;r0,0,0,999,6,8;b0,22,10;b1,23,10;p1,1;k0,1,0,0;k1,1,0,0;"
                + "k2,0,1,0;h0,1;");
        for (int n = 1; n <= 24; n++) {
            int want = n < 23 ? 0 : n == 23 ? 1 : 3;
            due("25 " + n + " HOURS", x.night(5, 4, n, 0), want);
            due("25 lost in " + n, x.night(5, 4, n, 1), n < 23 ? 0 : n == 23 ? 5 : 111);
        }
        due("25 25", x.night(5, 4, 25, 0), BAD);
        due("25 0", x.night(5, 4, 0, 0), BAD);
    }

    /** "it GOES when its PRESS is above that"; "ROOFS that GO .. (their snow .., they stand no more)". */
    private static void nightEdges() {
        // CHANCES of 1 in all: always that one. 20 bears 20, not 21.
        RoofsOfSnow x = laid("r10,0,0,99,1,8;r10,0,0,99,2,8;r9,0,0,99,4,8;b0,9,9;b0,20,1;b1,9,9;b1,19,1;"
                + "b2,8,10;k0,10,0,0;k1,10,0,0;k2,10,0,0;h0,1;");
        for (int z = 0; z < 30; z++) {
            due("25 20 and 19 by " + z, x.night(z, 4, 1, 0), 2);
            due("25 30 by " + z, x.night(z, 4, 2, 1), 3);
        }
        // Props that are done in the night count from then on.
        x = laid("r10,0,0,99,1,8;b0,20,10;k0,10,0,0;k1,10,0,0;k2,10,0,0;h0,1;o10,2;");
        x.prop(0);
        due("25 30 less 10", x.night(3, 4, 2, 0), 0);
        due("25 40 less 10", x.night(3, 4, 3, 0), 1);
        // WEAK by the CHANCES that are now, not by what was drawn.
        x = laid("r10,0,0,99,1,8;r10,0,0,99,2,8;b0,15,9;b0,99,1;b1,15,8;b1,99,2;k0,6,0,0;k1,6,0,0;"
                + "k2,6,0,0;h1,10;");
        // ROOF 1 is never cleared in HOUR 0: it bears 15 by DRAW(1, 99) modulo 10 below 8.
        due("25 9034: 4", x.night(0, 1, 1, 0), 2);
        due("25 5852: 2", x.night(1, 1, 1, 0), 2);
        due("25 1656: 6", x.night(9999, 1, 1, 0), 2);
        due("25 4819: 9", x.night(9998, 1, 1, 0), 0);
        // What is GONE is not cleared, and nothing falls on it: the hand is at ROOF 1 then.
        x = laid("r30,0,0,99,1,8;r5,0,0,99,2,0;b0,35,10;b1,15,10;k0,6,0,0;k1,6,0,0;k2,6,0,0;h1,6;");
        due("25 36 by NONE, then 17", x.night(3, 4, 2, 0), 3);
        due("25 DEEP keeps 30, and 17 goes", x.night(3, 0, 2, 0), 2);
        x.tell(1, 0);
        due("25 TOLD: 36 and 5 go; 6 stays", x.night(3, 3, 24, 0), 1);
        // 30 fall on ROOF 1 while that stands; by these it is GONE, what falls later is away.
        x = laid("r60,0,0,99,1,1;r9,0,0,99,2,8;r9,0,0,99,4,8;b0,60,10;b1,38,10;b2,20,10;h1,30;");
        due("25 ROOF 1 by 39, once", x.night(7, 3, 24, 0), 2);
        due("25 its WORTH once", x.night(7, 3, 24, 1), 2);
        // What is GONE in the night has nothing to be cleared: the hand is at ROOF 1 from then on.
        x = laid("r50,0,0,99,1,8;r20,0,0,99,2,8;b0,50,10;b1,41,10;k0,11,0,0;k1,11,0,0;k2,11,0,0;h1,10;");
        due("25 51, then 31 and one more each HOUR", x.night(7, 0, 11, 0), 1);
        due("25 42 in the 12th", x.night(7, 0, 12, 0), 3);
    }

    // ---- KEPT, how many

    /** "2 at most"; "As KEPT last (it is KEPT no more then): how many are left". */
    private static void kept() {
        RoofsOfSnow x = laid("r1,0,0,999,0,8;k1,1,0,0;h0,1;");
        due("27 none", x.back(), NO);
        for (int round = 0; round < 3; round++) {
            due("26 one", x.keep(), 1);
            x.on(4, 1);
            due("26 two", x.keep(), 2);
            x.on(4, 1);
            due("26 three", x.keep(), FULL);
            due("28 two", x.count(4), 2);
            due("27 one is left", x.back(), 1);
            due("27 the last one", x.roof(0, 0), 2);
            due("27 none is left", x.back(), 0);
            due("27 the first one", x.roof(0, 0), 1);
            due("27 no more", x.back(), NO);
            due("27 nothing changes", x.roof(0, 0), 1);
        }
        // As KEPT twice the same; the room is free again behind one BACK.
        x.keep();
        x.keep();
        x.on(4, 1);
        due("27 the same", x.back() * 10 + x.roof(0, 0), 11);
        x.on(4, 1);
        due("26 two again", x.keep(), 2);
        x.on(4, 1);
        due("27 2", x.back() * 10 + x.roof(0, 0), 12);
        due("27 1", x.back() * 10 + x.roof(0, 0), 1);
        x.keep();
        x.lay();
        due("5 nothing KEPT", x.count(4) * 10 + x.back(), NO);
    }

    /** "all of the village": back is as if nothing had been; but the told row and THE TEXT stay. */
    private static void keptWhole() {
        String text = "r20,5,5,60,7,2;r12,12,0,99,9,8;r8,12,3,40,11,0;b0,35,3;b0,45,3;b0,70,4;b1,30,10;"
                + "b2,40,2;b2,90,8;p0,2;p2,1;k0,1,0,0;k1,9,4,1;k2,3,3,5;s1;h2,6;g6;o12,2;l50;";
        RoofsOfSnow x = laid(text);
        RoofsOfSnow beside = laid(text);
        for (RoofsOfSnow one : new RoofsOfSnow[] {x, beside}) {
            one.prop(2);
            one.creak(0, false);
            one.tell(2, 1);
            one.on(0, 0);
            one.prop(2);
        }
        x.keep();
        x.tell(1, 0);
        x.prop(0);
        x.prop(2);
        x.creak(2, false);
        due("12 ROOF 1 at least", x.on(4, 1) & 2, 2);
        x.on(4, 2);
        x.on(4, 2);
        due("27 back", x.back(), 0);
        due("27 all as it was", Probe.of(x).equals(Probe.of(beside)) ? 1 : 0, 1);
        // Not the told row, not THE TEXT.
        x = laid(text);
        x.sky(2);
        x.keep();
        x.sky(1);
        x.write(1, 0);
        x.back();
        due("27 the row", x.count(2), 2);
        due("27 THE TEXT", x.count(1), text.length() + 1);
        // 20 creaks as KEPT, none ahead: by back there is room again.
        x = laid("r1,0,0,99,0,8;");
        x.keep();
        for (int n = 0; n < 20; n++) {
            due("9 creak " + n, x.creak(0, false), 10);
        }
        due("9 full", x.creak(0, false), FULL);
        x.keep();
        x.back();
        due("9 full as KEPT", x.creak(0, false), FULL);
        x.back();
        due("28 none as KEPT", x.count(3), 0);
        due("9 room again", x.creak(0, false), 10);
    }

    /** Each at its least and its most. */
    private static void count() {
        RoofsOfSnow x = laid("r0,0,0,9,0,8;".repeat(8));
        due("28 8 ROOFS", x.count(0), 8);
        due("28 bytes", x.count(1), 104);
        due("28 no SKIES, creaks, KEPT", x.count(2) + x.count(3) + x.count(4), 0);
        for (int n = 0; n < 12; n++) {
            x.sky(0);
        }
        for (int n = 0; n < 20; n++) {
            x.creak(n % 8, false);
        }
        x.keep();
        x.keep();
        while (x.count(1) < 500) {
            x.write(4, 0);
        }
        due("28 500 bytes", x.count(1), 500);
        due("28 12 SKIES", x.count(2), 12);
        due("28 20 creaks of all ROOFS", x.count(3), 20);
        due("28 2 KEPT", x.count(4), 2);
        due("28 no fifth", x.count(5), BAD);
        due("28 nor one below", x.count(-1), BAD);
        due("4 the text behind eight ROOFS", x.fault(), 104);
        due("5 NO", x.lay() + x.count(0), NO + 8);
    }
}

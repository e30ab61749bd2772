/**
 * The edges of PRESS, of AN HOUR, of THOUGHT, FELT, CREAK, GOES NOW and the RULES: just enough, one
 * less, one more; none, all; like ones. Promises 6 to 12.
 */
public final class EdgesOfHoursTest {
    private static final Check CHECK = new Check();
    private static final int NO = -2;

    private static void due(String call, long got, long want) {
        CHECK.due(call, got, want);
    }

    private static RoofsOfSnow laid(String text) {
        return Check.laid(text);
    }

    public static void main(String[] args) {
        press();
        goesAbove();
        cleared();
        handByHand();
        thrownOn();
        sky();
        slides();
        propsNearer();
        hoursOfTheVillage();
        stood();
        stoodThen();
        creaks();
        creaksBelowNone();
        creaksAndHours();
        goesNow();
        lowestTerms();
        felt();
        allGone();
        roofsTold();
        deep();
        weak();
        weakParts();
        people();
        told();
        CHECK.end();
    }

    /** SIDE 0 and 1 of a ROOF as one number. */
    private static int sides(RoofsOfSnow x, int i) {
        return x.roof(i, 0) * 1000 + x.roof(i, 1);
    }

    // ---- PRESS

    /** "what lies on both SIDES, and U times how far these are apart by 10, cut". */
    private static void press() {
        int[][] cases = {{9, 0, 1, 9}, {10, 0, 1, 11}, {0, 19, 1, 20}, {0, 20, 1, 22}, {1, 0, 20, 3},
            {0, 1, 20, 3}, {4, 0, 3, 5}, {0, 3, 3, 3}, {100, 93, 7, 197}, {93, 100, 7, 197},
            {7, 7, 20, 14}, {0, 0, 20, 0}, {200, 199, 9, 399}, {200, 198, 9, 399}, {50, 20, 0, 70}};
        for (int[] c : cases) {
            String roof = "r" + c[0] + "," + c[1] + "," + c[2] + ",999,0,8;";
            due("6 PRESS by " + roof, laid(roof).roof(0, 2), c[3]);
            due("6 as much is stood: " + roof, laid(roof).roof(0, 6), c[3]);
            if (c[3] > 1) {
                due("5 it bears that: " + roof, laid(roof + "b0," + c[3] + ",10;").now(3), 1);
                due("5 it bears 1 less: " + roof, laid(roof + "b0," + (c[3] - 1) + ",10;").now(3), 0);
            }
        }
    }

    /** "it GOES when its PRESS is above that", "what its props add that are done" counted in. */
    private static void goesAbove() {
        for (int bears = 24; bears <= 27; bears++) {
            RoofsOfSnow x = laid("r20,0,0,999,0,8;b0," + bears + ",10;k1,6,0,0;k2,16,0,0;h0,1;o10,1;");
            x.keep();
            due("12 26 by " + bears, x.on(4, 1), bears < 26 ? 1 : 0);
            x.back();
            x.prop(0);
            due("12 36 less 10 by " + bears, x.on(4, 2), bears < 26 ? 1 : 0);
        }
    }

    // ---- the hands

    /** "up to D of what lies there is cleared, less if there is less". */
    private static void cleared() {
        for (int lies = 0; lies <= 21; lies++) {
            for (int side = 0; side < 2; side++) {
                RoofsOfSnow x = laid((side == 0 ? "r" + lies + ",30" : "r30," + lies) + ",0,999,0,1;"
                        + "r5,7,0,999,0,8;h1,10;");
                x.tell(0, side);
                x.on(3, 0);
                int went = Math.min(lies, 10);
                due("12 of " + lies + " on SIDE " + side, x.roof(0, side), lies - went);
                due("12 not of the other SIDE", x.roof(0, 1 - side), 30);
                due("12 on SIDE 0 thrown on", sides(x, 1), (5 + went) * 1000 + 7);
            }
        }
    }

    /** "hand by hand, by what lies then": a hand sees what those ahead of it did. */
    private static void handByHand() {
        // 20, 0; 10, 10; like ones, so 0, 20; 10, 10.
        String round = "r20,0,0,999,0,1;r0,0,0,999,0,0;";
        int[][] behind = {{20, 0}, {10, 10}, {0, 20}, {10, 10}, {0, 20}};
        for (int hands = 0; hands < 5; hands++) {
            RoofsOfSnow x = laid(round + "h" + hands + ",10;");
            x.on(0, 0);
            due("12 " + hands + " hands: ROOF 0", sides(x, 0), behind[hands][0] * 1000);
            due("12 " + hands + " hands: ROOF 1", sides(x, 1), behind[hands][1] * 1000);
        }
        // Nine hands and nine to clear: 5 and 4.
        RoofsOfSnow x = laid("r5,4,0,999,0,8;h9,1;");
        x.on(0, 0);
        due("12 nine hands", sides(x, 0), 0);
        x = laid("r5,5,0,999,0,8;h9,1;");
        x.on(0, 0);
        due("12 nine hands of ten: SIDE 1 is left", sides(x, 0), 1);
        x = laid("r5,4,0,999,0,8;h0,50;");
        x.on(0, 0);
        due("12 no hands", sides(x, 0), 5004);
    }

    /** "it falls on SIDE 0 of the ROOF thrown on, if that stands". */
    private static void thrownOn() {
        RoofsOfSnow x = laid("r9,9,0,99,0,1;r9,0,0,99,0,8;b1,9,10;k1,1,0,0;h1,5;");
        due("12 it goes by 9, 5 and 1", x.on(3, 1), 2);
        due("12 5 and 1 are left", sides(x, 0), 5009);
        due("12 none on what is GONE", sides(x, 1), 0);
        x.on(3, 1);
        due("12 cleared as ever", sides(x, 0), 1009);
        due("12 and away", sides(x, 1) + x.roof(1, 5), 0);
        // On to ROOF 7 and from there to the ground.
        x = laid("r30,0,0,99,0,7;" + "r1,0,0,99,0,8;".repeat(7) + "h1,30;");
        x.on(0, 0);
        due("12 on ROOF 7", sides(x, 7), 31000);
        x.on(0, 0);
        due("12 to the ground", sides(x, 7), 1000);
        // What was thrown is FELT in the same HOUR.
        x = laid("r30,0,0,99,0,1;r10,0,0,99,0,8;b1,39,10;h1,29;");
        due("12 39 by throwing 29", x.on(0, 0), 0);
        x = laid("r30,0,0,99,0,1;r10,0,0,99,0,8;b1,39,10;h1,30;");
        due("12 40 by throwing 30", x.on(0, 0), 2);
    }

    // ---- the SKY, what slides

    /** "of what lay there ahead of that (behind the hands), M tenths, cut, more as water". */
    private static void sky() {
        // 30 less 10 and, thrown on, 5 and 10: half of 20, of 15 (cut), of 7 (cut); and 3, 2.
        RoofsOfSnow x = laid("r30,7,0,999,0,1;r5,0,0,999,0,8;k1,3,2,5;h1,10;");
        x.on(3, 1);
        due("12 behind the hands", sides(x, 0), 33012);
        due("12 of what was thrown too", sides(x, 1), 25002);
        // Each SIDE by itself: a tenth of 9 and of 1 is none, of 10 it is one.
        x = laid("r9,1,0,999,0,8;r10,0,0,999,0,8;k1,0,0,1;h0,1;");
        x.on(4, 1);
        due("12 none by 9 and 1", sides(x, 0), 9001);
        due("12 one by 10", sides(x, 1), 11000);
        // What is GONE gets no snow.
        x = laid("r9,9,0,999,0,8;r9,9,0,999,0,8;r9,9,0,999,0,8;b1,17,10;k1,60,60,9;h0,1;");
        x.on(4, 1);
        due("12 ROOF 0", sides(x, 0), 77077);
        due("12 ROOF 1 is GONE", sides(x, 1), 0);
        due("12 ROOF 2", sides(x, 2), 77077);
    }

    /** "a SIDE with more than V slides down to V": behind the SKY, ahead of FELT; it falls on none. */
    private static void slides() {
        for (int falls = 8; falls <= 12; falls++) {
            RoofsOfSnow x = laid("r10,10,0,20,0,1;r1,0,0,999,0,8;b0,40,10;k1," + falls + "," + falls
                    + ",0;h0,1;");
            due("12 V 20: it bears what stays", x.on(4, 1), 0);
            int stays = Math.min(20, 10 + falls);
            due("12 V 20 by 10 and " + falls, sides(x, 0), stays * 1001);
            due("12 it falls on none", sides(x, 1), (1 + falls) * 1000 + falls);
        }
        // More than V was told: the hands find it, then it slides.
        RoofsOfSnow x = laid("r50,3,0,10,0,1;r0,0,0,999,0,8;h1,10;");
        due("6 told above V", x.roof(0, 0), 50);
        due("6 and FELT", x.roof(0, 6), 53);
        x.on(0, 0);
        due("12 down to V", sides(x, 0), 10003);
        due("12 what was cleared alone", sides(x, 1), 10000);
        // ROOF by ROOF, to the last one.
        StringBuilder text = new StringBuilder("h0,1;");
        for (int i = 0; i < 8; i++) {
            text.append("r50,50,0,").append(40 + i).append(",0,8;");
        }
        x = laid(text.toString());
        x.on(4, 0);
        for (int i = 0; i < 8; i++) {
            due("12 V of " + i, sides(x, i), (40 + i) * 1001);
        }
        // What is thrown slides as well.
        x = laid("r30,0,0,999,0,1;r15,0,0,20,0,8;h1,30;");
        x.on(0, 0);
        due("12 45 down to 20", sides(x, 1), 20000);
    }

    // ---- props

    /** "props get nearer; then the PRESSES are felt": done in time for the HOUR's own PRESS. */
    private static void propsNearer() {
        for (int n = 1; n <= 3; n++) {
            RoofsOfSnow x = laid("r10,0,0,999,0,8;b0,15,10;k1,6,0,0;h0,1;o1," + n + ";");
            x.prop(0);
            for (int hour = 1; hour < n; hour++) {
                due("12 HOUR " + hour + " of " + n, x.on(4, 0) * 10 + x.roof(0, 3), 0);
            }
            x.keep();
            due("12 16 less 1", x.on(4, 1), 0);
            due("12 done", x.roof(0, 3), 1);
            due("12 for good", x.on(4, 0) * 10 + x.roof(0, 3), 1);
            x.back();
            due("12 not ahead of it", x.roof(0, 3), 0);
        }
        // One HOUR too late.
        RoofsOfSnow x = laid("r10,0,0,999,0,8;b0,15,10;k1,6,0,0;h0,1;o9,2;");
        x.prop(0);
        due("12 16", x.on(4, 1), 1);
        // Three at each of eight, the last one's last counted as well.
        x = laid("r0,0,0,9,0,8;".repeat(8) + "o7,2;");
        for (int i = 0; i < 8; i++) {
            x.prop(i);
            x.prop(i);
        }
        x.on(4, 0);
        for (int i = 0; i < 8; i++) {
            due("20 a third at " + i, x.prop(i), 3);
        }
        x.on(4, 0);
        for (int i = 0; i < 8; i++) {
            due("6 two done at " + i, x.roof(i, 3), 14);
        }
        x.on(4, 0);
        for (int i = 0; i < 8; i++) {
            due("6 three done at " + i, x.roof(i, 3), 21);
        }
    }

    /** "the next HOUR"; "it is the SKY that is now then"; also where none stands. */
    private static void hoursOfTheVillage() {
        RoofsOfSnow x = laid("r9,0,0,99,0,8;b0,8,10;s1;h1,1;");
        for (int hour = 0; hour < 40; hour++) {
            due("8 HOUR " + hour, x.now(0), hour);
            due("8 its SKY", x.now(1), (hour + 1) % 3);
            due("12 none is GONE more", x.on(hour % 5, (hour + 2) % 3), 0);
        }
    }

    // ---- THOUGHT

    /** "of its B those stay that are no less than each PRESS it has stood". */
    private static void stood() {
        String text = "r20,0,0,999,0,8;b0,19,1;b0,20,2;b0,21,3;b0,22,4;h1,5;k1,6,0,0;";
        RoofsOfSnow x = laid(text);
        due("7 19 is out", x.thought(0, 0), 0);
        due("7 20 stays", x.thought(0, 1), 2);
        due("7 in all", x.thought(0, -1), 9);
        x.on(3, 1);
        due("7 by 21 20 is out", x.thought(0, 1), 0);
        due("7 21 stays", x.thought(0, 2), 3);
        x.on(3, 0);
        due("6 16 now", x.roof(0, 2), 16);
        due("6 21 was stood", x.roof(0, 6), 21);
        due("7 20 does not come back", x.thought(0, -1), 7);
        x.on(3, 1);
        x.on(4, 0);
        due("7 17: as it was", x.thought(0, -1), 7);
        due("7 22", x.on(4, 1) + x.thought(0, -1), NO + 1);
        // Several like B, and B of no tenths, are as told.
        x = laid("r20,0,0,999,0,8;b0,20,0;b0,20,5;b0,20,5;b0,19,0;");
        due("7 no tenths", x.thought(0, 0) + x.thought(0, 3), 0);
        due("7 like ones", x.thought(0, 1) * 10 + x.thought(0, 2), 55);
        due("7 the fourth of three", laid("r0,0,0,9,0,8;b0,9,3;b0,9,3;b0,9,4;").thought(0, 3), 0);
    }

    /** "A PRESS counts, wherever it is beside a B, less what props that are done add (then)". */
    private static void stoodThen() {
        RoofsOfSnow x = laid("r10,0,0,999,0,8;b0,14,4;b0,30,6;k1,5,0,0;h0,1;o5,2;");
        x.prop(0);
        x.on(4, 1);
        due("7 15 without it: 14 is out", x.thought(0, -1), 6);
        x.on(4, 0);
        due("7 done later: still out", x.thought(0, -1) * 10 + x.roof(0, 3), 65);
        x = laid("r10,0,0,999,0,8;b0,14,4;b0,30,6;k1,5,0,0;h0,1;o1,1;");
        x.prop(0);
        x.on(4, 1);
        due("7 15 less 1: 14 stays", x.thought(0, -1), 10);
        due("6 the PRESS itself", x.roof(0, 2) * 100 + x.roof(0, 6), 1515);
        // Less than none by props: nothing is out.
        x = laid("r10,0,0,999,0,8;b0,10,4;b0,30,6;k1,60,60,9;h0,1;o200,1;");
        x.prop(0);
        due("12 139 less 200", x.on(4, 1), 0);
        due("7 all stay", x.thought(0, -1), 10);
        due("6 139 was stood", x.roof(0, 6), 139);
    }

    // ---- CREAK

    /** "heard: that are below p and G; not heard: that are no less than p and G". */
    private static void creaks() {
        String text = "r20,0,0,999,0,8;b0,24,1;b0,25,2;b0,26,7;g5;";
        RoofsOfSnow x = laid(text);
        due("9 heard: 24 is below 25", x.creak(0, true), 1);
        due("7 24", x.thought(0, 0), 1);
        due("7 not 25", x.thought(0, 1), 0);
        due("9 heard again", x.creak(0, true), 1);
        due("9 not heard then", x.creak(0, false), NO);
        due("28 two were told", x.count(3), 2);
        x = laid(text);
        due("9 not heard: 25 is no less", x.creak(0, false), 9);
        due("7 not 24", x.thought(0, 0), 0);
        due("7 25 and 26", x.thought(0, 1) * 10 + x.thought(0, 2), 27);
        due("9 not heard again", x.creak(0, false), 9);
        due("9 heard then", x.creak(0, true), NO);
        due("28 two of three", x.count(3), 2);
        due("6 it changes no PRESS", x.roof(0, 2) * 100 + x.roof(0, 6), 2020);
        due("8 and no HOUR", x.now(0), 0);
        // CHANCES would be 0 also by a B of no tenths.
        x = laid("r20,0,0,999,0,8;b0,24,0;b0,25,10;g5;");
        due("9 by no tenths", x.creak(0, true), NO);
        due("28 not counted", x.count(3), 0);
        due("7 as it was", x.thought(0, -1), 10);
        // Of one ROOF alone.
        x = laid("r20,0,0,999,0,8;r20,0,0,999,0,8;b0,24,1;b0,25,9;b1,24,1;b1,25,9;g5;");
        due("9 ROOF 1", x.creak(1, true), 1);
        due("7 ROOF 0 as it was", x.thought(0, -1), 10);
    }

    /** A PRESS less what props add may be below none: every B is above that and G. */
    private static void creaksBelowNone() {
        RoofsOfSnow x = laid("r20,0,0,999,0,8;b0,20,1;b0,999,9;g99;h0,1;o200,1;");
        x.prop(0);
        due("9 20 and 99, not done", x.creak(0, true), 1);
        x = laid("r20,0,0,999,0,8;b0,20,1;b0,999,9;g99;h0,1;o200,1;");
        x.prop(0);
        x.on(4, 0);
        due("9 20 less 200 and 99: heard", x.creak(0, true), NO);
        due("9 not heard", x.creak(0, false), 10);
        due("28 that counts", x.count(3), 1);
        // 100 less 99 and 0: a B of 1 is below 1 no more than a B of 2.
        x = laid("r0,0,0,999,0,8;b0,1,4;b0,2,6;g1;");
        due("9 0 and 1: 1 is no less", x.creak(0, false), 10);
        due("9 heard by 1", x.creak(0, true), NO);
    }

    /** Creaks told at several PRESSES, and what was stood besides. */
    private static void creaksAndHours() {
        RoofsOfSnow x = laid("r20,0,0,999,0,8;b0,24,1;b0,30,4;b0,33,2;b0,40,3;g5;k1,8,0,0;h0,1;k2,3,0,0;");
        due("9 not heard by 20", x.creak(0, false), 9);
        x.on(4, 1);
        due("9 heard by 28: 24 is out, 30 alone is below 33", x.creak(0, true), 4);
        due("7 33 is not below 33", x.thought(0, 2), 0);
        x.keep();
        due("12 31 is above the one that stays", x.on(4, 2), 1);
        due("7 GONE", x.thought(0, -1), NO);
        x.back();
        due("28 two creaks as KEPT", x.count(3), 2);
        due("7 as KEPT", x.thought(0, -1), 4);
        // The village laid anew has none.
        due("5 laid anew", x.lay() + x.count(3), 1);
        due("7 all", x.thought(0, -1), 10);
    }

    // ---- GOES NOW

    /** "those of B below its PRESS, were there x more on each SIDE". */
    private static void goesNow() {
        RoofsOfSnow x = laid("r20,0,5,999,0,8;b0,40,2;b0,50,3;b0,60,5;o3,1;h0,1;");
        // 30, twice x more; as far apart as ever.
        int[][] cases = {{0, 0, 1}, {4, 0, 1}, {5, 0, 1}, {6, 1, 5}, {10, 1, 5}, {11, 1, 2}, {15, 1, 2},
            {16, 1, 1}, {199, 1, 1}, {200, 1, 1}};
        for (int[] c : cases) {
            due("10 above by " + c[0], x.goes(0, c[0], 0), c[1]);
            due("10 below by " + c[0], x.goes(0, c[0], 1), c[2]);
        }
        x.prop(0);
        due("10 a prop that is not done", x.goes(0, 6, 0), 1);
        x.on(4, 0);
        due("10 42 less 3", x.goes(0, 6, 0), 0);
        due("10 44 less 3", x.goes(0, 7, 0) * 10 + x.goes(0, 7, 1), 15);
    }

    private static void terms(String bears, int all, int above, int below) {
        // 20 now, 40 by ten more on each SIDE.
        RoofsOfSnow x = laid("r20,0,0,999,0,8;" + bears);
        due("7 CHANCES by " + bears, x.thought(0, -1), all);
        due("10 above by " + bears, x.goes(0, 10, 0), above);
        due("10 below by " + bears, x.goes(0, 10, 1), below);
    }

    /** "in lowest terms", by all CHANCES that are left. */
    private static void lowestTerms() {
        terms("b0,40,10;", 10, 0, 1);
        terms("b0,39,10;", 10, 1, 1);
        terms("b0,39,5;b0,40,5;", 10, 1, 2);
        terms("b0,39,8;b0,40,2;", 10, 4, 5);
        terms("b0,39,7;b0,40,3;", 10, 7, 10);
        terms("b0,19,1;b0,39,6;b0,40,3;", 9, 2, 3);
        terms("b0,19,1;b0,39,9;", 9, 1, 1);
        terms("b0,19,2;b0,39,6;b0,40,2;", 8, 3, 4);
        terms("b0,19,3;b0,39,3;b0,40,4;", 7, 3, 7);
        terms("b0,19,4;b0,39,4;b0,40,2;", 6, 2, 3);
        terms("b0,19,9;b0,39,1;", 1, 1, 1);
        terms("b0,19,9;b0,40,1;", 1, 0, 1);
        terms("b0,19,8;b0,20,1;b0,39,1;", 2, 1, 1);
        terms("b0,39,0;b0,40,10;", 10, 0, 1);
        terms("b0,39,10;b0,40,0;", 10, 1, 1);
    }

    // ---- FELT

    /** "a ROOF that stands has stood its PRESS; if its CHANCES would be 0 by that, it is GONE". */
    private static void felt() {
        RoofsOfSnow x = laid("r10,0,0,999,0,8;b0,15,0;b0,14,10;k1,5,0,0;h0,1;p0,3;");
        due("12 none of 10 tenths bears 15", x.on(4, 1), 1);
        due("6 what it stood", x.roof(0, 6), 10);
        due("6 its snow with it", sides(x, 0) + x.roof(0, 2), 0);
        due("6 it stands no more", x.roof(0, 5), 0);
        due("6 people are told as ever", x.roof(0, 7), 3);
        x = laid("r10,0,0,999,0,8;b0,15,1;b0,14,9;k1,5,0,0;h0,1;");
        due("12 one of 10 tenths does", x.on(4, 1), 0);
        due("7 one", x.thought(0, -1), 1);
        due("6 15 was stood", x.roof(0, 6), 15);
    }

    /** "ROOFS that were GONE by it, as bits": ROOF 7 as well, and none twice. */
    private static void allGone() {
        StringBuilder text = new StringBuilder();
        for (int i = 0; i < 8; i++) {
            text.append("r").append(i).append(",0,0,99,0,8;b").append(i).append(",9,10;");
        }
        RoofsOfSnow x = laid(text + "k1,1,0,0;h0,1;");
        due("12 none by 8", x.on(4, 1), 0);
        due("12 none by 9", x.on(4, 1), 0);
        for (int i = 7; i >= 0; i--) {
            due("12 ROOF " + i + " by 10", x.on(4, 1), 1 << i);
            due("8 those that stand", x.now(3), (1 << i) - 1);
        }
        due("12 none is left", x.on(4, 1), 0);
        x = laid(text + "k1,10,0,0;h0,1;");
        due("12 all at once", x.on(4, 1), 255);
    }

    // ---- told

    /** "The ROOF, SIDE TOLD: 2 ROOF and SIDE as they were"; also one that is GONE. */
    private static void roofsTold() {
        RoofsOfSnow x = laid("r1,0,0,99,0,8;".repeat(7) + "r9,9,0,99,0,8;b7,17,10;");
        int was = 0;
        for (int spot = 15; spot >= 0; spot--) {
            due("11 as it was", x.tell(spot / 2, spot % 2), was);
            was = spot;
        }
        due("11 the same again", x.tell(0, 0), 0);
        due("11 ROOF 7 is GONE", x.now(3), 127);
    }

    // ---- RULES

    /** The spot at which the one hand cleared its one (that may save the ROOF), or none (-1). */
    private static int spot(String text, int rule, int sky) {
        RoofsOfSnow x = laid(text + "h0,1;");
        RoofsOfSnow y = laid(text + "h1,1;");
        x.on(rule, sky);
        y.on(rule, sky);
        int found = -1;
        for (int s = 0; s < 2 * x.count(0); s++) {
            found = x.roof(s / 2, s % 2) != y.roof(s / 2, s % 2) ? s : found;
        }
        return found;
    }

    /** "the SIDE on which most lies"; "of several the lowest ROOF, the lower SIDE". */
    private static void deep() {
        due("12 DEEP, none lies", spot("r0,0,0,99,0,8;r0,0,0,99,0,8;", 0, 0), -1);
        due("12 DEEP, all alike", spot("r3,3,0,99,0,8;r3,3,0,99,0,8;", 0, 0), 0);
        due("12 DEEP, one more", spot("r3,4,0,99,0,8;r3,3,0,99,0,8;", 0, 0), 1);
        due("12 DEEP, like on two", spot("r3,4,0,99,0,8;r4,3,0,99,0,8;", 0, 0), 1);
        due("12 DEEP, by SIDES, not by ROOFS", spot("r9,9,20,99,0,8;r0,10,0,99,0,8;", 0, 0), 3);
        for (int last = 0; last < 16; last++) {
            StringBuilder text = new StringBuilder();
            for (int i = 0; i < 8; i++) {
                text.append("r").append(last == 2 * i ? 6 : 5).append(',')
                        .append(last == 2 * i + 1 ? 6 : 5).append(",0,99,0,8;");
            }
            due("12 DEEP, the deepest of sixteen", spot(text.toString(), 0, 0), last);
        }
        // What is GONE lies there no more.
        due("12 DEEP, one is GONE", spot("r9,9,0,99,0,8;r0,1,0,99,0,8;b0,5,10;", 0, 0), 3);
        due("12 DEEP, one is GONE, SIDE 0", spot("r9,9,0,99,0,8;r1,0,0,99,0,8;b0,5,10;", 0, 0), 2);
    }

    /** "of B below its PRESS, were S more on SIDE 0, D on SIDE 1 (of the SKY of this HOUR)". */
    private static void weak() {
        String two = "r6,0,0,99,0,8;r6,0,0,99,0,8;b0,40,10;b1,20,9;b1,99,1;";
        due("12 WEAK, 20 bears 20", spot(two + "k1,14,0,0;", 1, 1), 0);
        due("12 WEAK, 20 bears no 21", spot(two + "k1,15,0,0;", 1, 1), 2);
        due("12 WEAK, by SIDE 1", spot(two + "k1,0,15,0;", 1, 1), 2);
        due("12 WEAK, by both", spot(two + "k1,7,8,0;", 1, 1), 2);
        due("12 WEAK, of this SKY", spot(two + "k1,15,0,0;k2,14,0,0;", 1, 2), 0);
        due("12 WEAK, not of the SKY that was", spot(two + "k1,15,0,0;k2,14,0,0;s1;", 1, 2), 0);
        // The weakest one, on which nothing lies, is none of them.
        due("12 WEAK, nothing lies", spot("r0,0,0,99,0,8;r0,1,0,99,0,8;b0,5,10;k1,9,0,0;", 1, 1), 3);
        due("12 WEAK, nowhere", spot("r0,0,0,99,0,8;b0,5,10;k1,9,0,0;", 1, 1), -1);
        due("12 WEAK, one is GONE", spot("r9,0,0,99,0,8;r1,1,0,99,0,8;b0,5,10;", 1, 0), 2);
        // The SIDE on which more lies now, whatever the SKY brings.
        due("12 WEAK, SIDE 1", spot("r3,4,0,99,0,8;k1,60,0,0;", 1, 1), 1);
        due("12 WEAK, like SIDES", spot("r4,4,0,99,0,8;k1,0,60,0;", 1, 1), 0);
        // Less what a prop adds that is done: 21 less 1 is not above 20, so ROOF 1 by 8 of 10.
        RoofsOfSnow x = laid("r6,0,0,99,0,8;r6,0,0,99,0,8;b0,20,9;b0,99,1;b1,20,8;b1,99,2;k1,15,0,0;"
                + "h1,1;o1,2;");
        x.prop(0);
        x.on(4, 0);
        x.keep();
        x.on(1, 1);
        due("12 WEAK, not done ahead of the hands", x.roof(0, 0) * 100 + x.roof(1, 0), 2021);
        x.back();
        x.on(4, 0);
        x.on(1, 1);
        due("12 WEAK, less the prop", x.roof(0, 0) * 100 + x.roof(1, 0), 2120);
        // The first hand takes 2 from ROOF 1: 21 is 19 then, so the second one is at ROOF 0.
        x = laid(two + "k1,15,0,0;h2,2;");
        x.on(1, 1);
        due("12 WEAK, hand by hand", x.roof(0, 0) * 100 + x.roof(1, 0), 1919);
    }

    private static void parts(String what, String first, String second, int want) {
        due("12 WEAK, " + what, spot("r6,0,0,99,0,8;r6,0,0,99,0,8;" + first + second + "k1,15,0,0;", 1, 1),
                want);
    }

    /** "the part of its CHANCES (as they are now) is greatest": 21 puts out 20, 6 has put out 5. */
    private static void weakParts() {
        parts("3 of 9 and 1 of 3", "b0,5,1;b0,20,3;b0,40,6;", "b1,5,7;b1,20,1;b1,40,2;", 0);
        parts("1 of 3 and 3 of 9", "b0,5,7;b0,20,1;b0,40,2;", "b1,5,1;b1,20,3;b1,40,6;", 0);
        parts("3 of 9 and 2 of 5", "b0,5,1;b0,20,3;b0,40,6;", "b1,5,5;b1,20,2;b1,40,3;", 2);
        parts("2 of 5 and 3 of 9", "b0,5,5;b0,20,2;b0,40,3;", "b1,5,1;b1,20,3;b1,40,6;", 0);
        parts("6 of 7 and 7 of 8", "b0,5,3;b0,20,6;b0,40,1;", "b1,5,2;b1,20,7;b1,40,1;", 2);
        parts("1 of 1 and 9 of 10", "b0,5,9;b0,20,1;", "b1,20,9;b1,40,1;", 0);
        parts("9 of 10 and 1 of 1", "b0,20,9;b0,40,1;", "b1,5,9;b1,20,1;", 2);
        parts("all and all", "b0,20,10;", "b1,20,10;", 0);
        parts("none and none", "b0,40,10;", "b1,40,10;", 0);
        parts("none and 1 of 10", "b0,40,10;", "b1,20,1;b1,40,9;", 2);
        parts("by no tenths", "b0,40,10;", "b1,20,0;b1,40,10;", 0);
    }

    /** "the ROOF under which most sleep; of these ROOFS the SIDE on which more lies". */
    private static void people() {
        String two = "r3,4,0,99,0,8;r5,5,0,99,0,8;";
        due("12 PEOPLE, none sleep", spot(two, 2, 0), 1);
        due("12 PEOPLE, like many", spot(two + "p0,9;p1,9;", 2, 0), 1);
        due("12 PEOPLE, one more", spot(two + "p0,9;p1,10;", 2, 0), 2);
        due("12 PEOPLE, 99", spot(two + "p0,99;p1,98;", 2, 0), 1);
        due("12 PEOPLE, nothing lies there", spot("r0,0,0,99,0,8;r1,0,0,99,0,8;p0,99;", 2, 0), 2);
        due("12 PEOPLE, nowhere", spot("r0,0,0,99,0,8;p0,99;", 2, 0), -1);
        due("12 PEOPLE, one is GONE", spot("r9,0,0,99,0,8;r1,0,0,99,0,8;b0,5,10;p0,99;", 2, 0), 2);
        due("12 PEOPLE, ROOF 7", spot("r1,1,0,99,0,8;".repeat(7) + "r1,2,0,99,0,8;p7,1;", 2, 0), 15);
        // When the ROOF is bare the next hand is at the next one.
        RoofsOfSnow x = laid("r5,0,0,99,0,8;r9,0,0,99,0,8;p0,2;p1,1;h2,5;");
        x.on(2, 0);
        due("12 PEOPLE, hand by hand", x.roof(0, 0) * 100 + x.roof(1, 0), 4);
    }

    /** "the ROOF and SIDE told (0, 0 at first), if something lies there; NONE". */
    private static void told() {
        RoofsOfSnow x = laid("r15,9,0,99,0,1;r0,9,0,99,0,8;h9,10;");
        x.on(3, 0);
        due("12 TOLD, 0, 0 at first; the rest of nine hands rests", sides(x, 0), 9);
        due("12 TOLD, 15 thrown", sides(x, 1), 15009);
        x.tell(1, 1);
        x.on(3, 0);
        due("12 TOLD, SIDE 1 of ROOF 1", sides(x, 1), 15000);
        x.on(3, 0);
        due("12 TOLD, nothing lies there", sides(x, 1) + sides(x, 0), 15009);
        x = laid("r9,9,0,99,0,8;r9,9,0,99,0,8;b1,17,10;h1,9;");
        x.tell(1, 0);
        x.on(3, 0);
        due("12 TOLD, what is GONE", sides(x, 0) + sides(x, 1), 9009);
        x.on(4, 0);
        due("12 NONE", sides(x, 0), 9009);
        x.tell(0, 1);
        x.on(4, 0);
        due("12 NONE, whatever is TOLD", sides(x, 0), 9009);
    }
}

/** Each promise of the document by runs that were worked out by hand. */
public final class PromisesTest {
    private static final Check CHECK = new Check();
    private static final int BAD = -1, NO = -2, FULL = -3, NONE = -4;

    private static void due(String call, long got, long want) {
        CHECK.due(call, got, want);
    }

    private static RoofsOfSnow laid(String text) {
        return Check.laid(text);
    }

    public static void main(String[] args) {
        newObject();
        write();
        wipe();
        faultOfSigns();
        faultOfRanges();
        faultOfOthers();
        lay();
        layAnew();
        roof();
        roofStood();
        thought();
        now();
        creak();
        creaksFull();
        goes();
        tell();
        onHands();
        onWeather();
        onGone();
        onProps();
        rules();
        sky();
        loss();
        lossOfSeveral();
        over();
        best();
        bestTies();
        first();
        more();
        prop();
        instead();
        look();
        rain();
        out();
        night();
        nightRuns();
        keepAndBack();
        count();
        CHECK.end();
    }

    private static void newObject() {
        due("1 BAD", RoofsOfSnow.BAD, -1);
        due("1 NO", RoofsOfSnow.NO, -2);
        due("1 FULL", RoofsOfSnow.FULL, -3);
        due("1 NONE", RoofsOfSnow.NONE, -4);
        RoofsOfSnow x = new RoofsOfSnow();
        due("1 roofs", x.count(0), 1);
        due("1 bytes", x.count(1), 0);
        due("1 stands", x.roof(0, 5), 1);
        due("1 chances", x.thought(0, 0), 10);
        due("1 hands", x.now(2), 1);
        due("1 500", x.goes(0, 200, 0), 0);
        due("1 fault", x.fault(), NONE);
        due("1 lay", x.lay(), NO);
        due("1 sky 2", x.on(4, 2), 0);
        due("1 no snow falls", x.roof(0, 2), 0);
        due("1 night", x.night(0, 0, 24, 1), 0);
        // 3 props of 50 in 3 HOURS.
        x.prop(0);
        x.on(0, 0);
        x.on(0, 0);
        due("1 prop not done", x.roof(0, 3), 0);
        x.on(0, 0);
        due("1 prop done", x.roof(0, 3), 50);
        // Not heard with a PRESS of -50 and 10: all above that.
        due("1 creak", x.creak(0, false), 10);
    }

    private static void write() {
        RoofsOfSnow x = new RoofsOfSnow();
        due("2 n 0", x.write(0, 's'), BAD);
        due("2 n 9", x.write(9, 's'), BAD);
        due("2 n -1", x.write(-1, 's'), BAD);
        due("2 length", x.count(1), 0);
        due("2 the lowest byte alone", x.write(1, 0x4142434445464773L), 1);
        due("2 high first", x.write(2, ('1' << 8) + ';'), 3);
        due("2 s1;", x.fault(), NONE);
        due("2 eight", x.write(8, 0x73303B73313B7332L), 11);
        due("2 not ended", x.fault(), 9);
        due("2 ended", x.write(1, 0xFFFFFF3BL), 12);
        due("2 s0;s1;s2;", x.fault(), NONE);
        due("2 byte 255", x.write(1, -1L), 13);
        due("2 no letter", x.fault(), 12);
        x.wipe();
        for (int i = 1; i <= 62; i++) {
            due("2 write " + i, x.write(8, 0x73303B73303B7330L), 8 * i);
        }
        due("2 full", x.write(5, 0), FULL);
        due("2 nothing changes", x.count(1), 496);
        due("2 to the end", x.write(4, 0), 500);
        due("2 none more", x.write(1, 0), FULL);
        due("2 BAD first", x.write(9, 0), BAD);
        due("2 BAD first too", x.write(0, 0), BAD);
    }

    private static void wipe() {
        RoofsOfSnow x = new RoofsOfSnow();
        due("3 empty", x.wipe(), 0);
        Check.write(x, "r0,0,0,1,0,8;");
        x.lay();
        due("3 how long it was", x.wipe(), 13);
        due("3 empty then", x.count(1), 0);
        due("3 no fault", x.fault(), NONE);
        due("3 the village stays", x.count(0), 1);
        due("3 not laid", x.lay(), NO);
        Check.write(x, "s1;");
        due("3 from the start again", x.fault(), NONE);
        due("3 three", x.wipe(), 3);
    }

    private static void fault(String text, int place) {
        RoofsOfSnow x = new RoofsOfSnow();
        Check.write(x, text);
        due("4 fault of " + text, x.fault(), place);
        if (place != NONE) {
            due("4 lay of " + text, x.lay(), NO);
            due("4 roofs behind " + text, x.count(0), 1);
        }
    }

    private static void faultOfSigns() {
        fault("", NONE);
        fault("s", 0);
        fault("s1", 0);
        fault(";", 0);
        fault("s;", 0);
        fault("s,1;", 0);
        fault("s1,;", 0);
        fault("s1,1;", 0);
        fault("s1;;", 3);
        fault("s1; s1;", 3);
        fault("s1;S1;", 3);
        fault("s1;x1;", 3);
        fault("s001;", NONE);
        fault("s0001;", 0);
        fault("s-1;", 0);
        fault("s1;s1;s1", 6);
        fault("h1;", 0);
        fault("h1,1,1;", 0);
        fault("h1;1;", 0);
        fault("h1,1,", 0);
        fault("h01,001;l999;", NONE);
        fault("s1" + (char) 0, 0);
        fault("s/;", 0);
        fault("s:;", 0);
    }

    /** Every number at its least and its most, and one behind each. */
    private static void faultOfRanges() {
        String ahead = "r0,0,0,1,0,8;r0,0,0,1,0,8;";
        String[] letters = {"r", "b", "p", "k", "s", "h", "g", "o", "l"};
        int[][] least = {{0, 0, 0, 1, 0, 0}, {0, 1, 0}, {0, 0}, {0, 0, 0, 0}, {0}, {0, 1}, {0},
            {0, 1}, {0}};
        int[][] most = {{200, 200, 20, 999, 999, 8}, {1, 999, 10}, {1, 99}, {2, 60, 60, 9}, {2},
            {9, 50}, {99}, {200, 20}, {999}};
        for (int item = 0; item < letters.length; item++) {
            fault(ahead + told(letters[item], least[item], -1, 0), NONE);
            fault(ahead + told(letters[item], most[item], -1, 0), NONE);
            for (int j = 0; j < least[item].length; j++) {
                if (least[item][j] > 0) {
                    fault(ahead + told(letters[item], least[item], j, -1), ahead.length());
                }
                fault(ahead + told(letters[item], most[item], j, 1), ahead.length());
            }
        }
    }

    private static String told(String letter, int[] numbers, int place, int by) {
        StringBuilder item = new StringBuilder(letter);
        for (int j = 0; j < numbers.length; j++) {
            item.append(j == 0 ? "" : ",").append(j == place ? numbers[j] + by : numbers[j]);
        }
        return item.append(';').toString();
    }

    private static void faultOfOthers() {
        fault("c0,10,0,0;c1,0,10,0;c2,0,0,10;", NONE);
        fault("c0,4,3,3;c1,4,3,2;", 9);
        fault("c0,4,3,4;", 0);
        fault("c3,4,3,3;", 0);
        fault("c0,11,0,0;", 0);
        fault("c0,4,6;", 0);
        fault("b0,5,10;r0,0,0,1,0,8;", 0);
        fault("r0,0,0,1,0,8;b1,5,10;r0,0,0,1,0,8;", 13);
        fault("p0,5;", 0);
        fault("r0,0,0,1,0,8;p1,5;", 13);
        fault("r0,0,0,1,0,8;p0,5;p0,0;", NONE);
        String roof = "r0,0,0,1,0,8;";
        fault(roof.repeat(8), NONE);
        fault(roof.repeat(9), 104);
        fault(roof + "b0,5,1;".repeat(4) + "s0;", NONE);
        fault(roof + "b0,5,0;".repeat(5), 41);
        fault(roof.repeat(2) + "b0,5,9;".repeat(4) + "b1,5,9;".repeat(5), 82);
        // The first of several faults.
        fault("s0;s3;s4;", 3);
    }

    private static void lay(String text, int want) {
        RoofsOfSnow x = new RoofsOfSnow();
        Check.write(x, text);
        due("5 fault of " + text, x.fault(), NONE);
        due("5 lay of " + text, x.lay(), want);
        due("5 THE TEXT stays", x.count(1), text.length());
    }

    private static void lay() {
        lay("s1;h1,1;", NO);
        lay("r0,0,0,1,0,8;", 1);
        lay("r0,0,0,1,0,0;", NO);
        lay("r0,0,0,1,0,1;", NO);
        lay("r0,0,0,1,0,1;r0,0,0,1,0,0;", 2);
        lay("r0,0,0,1,0,8;r0,0,0,1,0,1;", NO);
        lay("r0,0,0,1,0,8;r0,0,0,1,0,2;", NO);
        lay("r0,0,0,1,0,8;r0,0,0,1,0,7;", NO);
        lay("r0,0,0,1,0,8;".repeat(8), 8);
        lay("r0,0,0,1,0,7;" + "r0,0,0,1,0,8;".repeat(7), 8);
        lay("r0,0,0,1,0,7;" + "r0,0,0,1,0,8;".repeat(6), NO);
        lay("r0,0,0,1,0,8;b0,5,9;", NO);
        lay("r0,0,0,1,0,8;b0,5,9;b0,5,1;", 1);
        lay("r0,0,0,1,0,8;b0,5,9;b0,5,2;", NO);
        lay("r0,0,0,1,0,8;b0,5,0;", NO);
        lay("r0,0,0,1,0,8;r0,0,0,1,0,8;b0,5,10;", 2);
        lay("r0,0,0,1,0,8;r0,0,0,1,0,8;b0,5,5;b1,5,5;", NO);
    }

    private static void layAnew() {
        RoofsOfSnow x = laid("r9,0,0,99,1,8;r9,0,0,99,1,8;k1,20,0,0;k2,0,0,9;s1;h3,2;p0,7;");
        x.tell(1, 1);
        x.creak(0, false);
        x.prop(1);
        x.sky(1);
        x.keep();
        x.on(4, 1);
        x.wipe();
        Check.write(x, "r9,0,0,99,1,8;x");
        due("5 NO", x.lay(), NO);
        due("5 nothing changes", x.count(0) + 10 * x.count(2) + 100 * x.count(3) + 1000 * x.count(4),
                1112);
        due("5 the HOUR stays", x.now(0), 1);
        due("5 the snow stays", x.roof(0, 0), 29);
        due("5 hands stay", x.now(2), 3);
        x.wipe();
        Check.write(x, "r9,1,0,99,1,8;r200,200,20,999,1,8;r200,1,20,999,1,0;b1,400,10;b2,598,10;");
        due("5 three", x.lay(), 3);
        due("5 THE TEXT stays", x.count(1), 72);
        due("5 HOUR 0", x.now(0), 0);
        due("5 SKY 0", x.now(1), 0);
        due("5 one hand again", x.now(2), 1);
        due("5 FELT: 400 is stood, 599 is not", x.now(3), 3);
        due("5 its snow with it", x.roof(2, 0) + x.roof(2, 1), 0);
        due("5 no skies", x.count(2), 0);
        due("5 no creaks", x.count(3), 0);
        due("5 nothing KEPT", x.count(4), 0);
        due("5 none to go back to", x.back(), NO);
        due("5 no props", x.roof(1, 4), 0);
        due("5 stood", x.roof(1, 6), 400);
        due("5 stood anew", x.roof(0, 6), 10);
        due("5 nobody told", x.roof(0, 7), 0);
        due("5 stood not", x.roof(2, 6), 0);
        due("5 0, 0 TOLD", x.tell(0, 1), 0);
        x.on(4, 1);
        x.on(4, 2);
        due("5 no SKY told", x.roof(0, 2), 10);
        due("5 again", x.lay(), 3);
    }

    private static void roof() {
        RoofsOfSnow x = laid("r10,21,5,999,7,8;r30,0,20,999,7,8;p1,4;p1,3;p0,99;p0,0;");
        due("6 SIDE 0", x.roof(0, 0), 10);
        due("6 SIDE 1", x.roof(0, 1), 21);
        due("6 PRESS, cut", x.roof(0, 2), 36);
        due("6 PRESS of the other", x.roof(1, 2), 90);
        due("6 props' sum", x.roof(0, 3), 0);
        due("6 props", x.roof(0, 4), 0);
        due("6 stands", x.roof(0, 5), 1);
        due("6 stood", x.roof(0, 6), 36);
        due("6 people: the last one", x.roof(1, 7), 3);
        due("6 people: none", x.roof(0, 7), 0);
        due("6 what 8", x.roof(0, 8), BAD);
        due("6 what -1", x.roof(0, -1), BAD);
        due("6 ROOF 2", x.roof(2, 0), BAD);
        due("6 ROOF -1", x.roof(-1, 0), BAD);
        due("6 far", x.roof(Integer.MAX_VALUE, 0) + x.roof(Integer.MIN_VALUE, 0), 2 * BAD);
    }

    private static void roofStood() {
        // One hand clears 50 of 60, then SKY 1 brings 5 on SIDE 1.
        RoofsOfSnow x = laid("r60,0,0,999,7,8;b0,62,10;h1,50;k1,0,5,0;k2,60,0,0;o3,1;");
        x.on(0, 1);
        due("6 PRESS now", x.roof(0, 2), 15);
        due("6 the greatest stood", x.roof(0, 6), 60);
        // Done behind the HOUR: 75 less 3 would be above 62.
        x.prop(0);
        x.prop(0);
        due("6 two props", x.roof(0, 4), 2);
        due("6 gone", x.on(4, 2), 1);
        due("6 props stay told", x.roof(0, 4), 2);
        due("6 stands no more", x.roof(0, 5), 0);
        due("6 no snow", x.roof(0, 0) + x.roof(0, 1) + x.roof(0, 2), 0);
        due("6 what it had stood", x.roof(0, 6), 60);
        due("6 people also then", x.roof(0, 7), 0);
        stoodWithProps();
    }

    /** What is answered by itself is not beside a B: nothing less for props. */
    private static void stoodWithProps() {
        RoofsOfSnow x = laid("r40,10,5,999,7,8;b0,70,5;b0,99,5;h0,1;k1,20,0,0;k2,5,0,0;o20,1;");
        due("6 stood without a prop", x.roof(0, 6), 65);
        x.prop(0);
        due("6 a prop that is not done", x.roof(0, 6), 65);
        // 60 and 10: 70 and 25 together, 75 beside a B.
        due("6 stands by the prop", x.on(4, 1), 0);
        due("6 the prop is done", x.roof(0, 3), 20);
        due("6 PRESS as it is", x.roof(0, 2), 95);
        due("6 stood, nothing less for the prop", x.roof(0, 6), 95);
        due("7 70 is out, 99 is not", x.thought(0, -1), 5);
        due("7 70 is out", x.thought(0, 0), 0);
        // Two props: 65 and 10 is 102, 62 beside a B; less than was stood beside a B, more by itself.
        x.prop(0);
        x.keep();
        due("6 stands by two props", x.on(4, 2), 0);
        due("6 the greatest by itself", x.roof(0, 6), 102);
        due("7 none more is out", x.thought(0, 1), 5);
        due("27 as KEPT", x.back() + x.roof(0, 6), 95);
        // 80 and 10 is 125, 85 beside a B; then 100 and 10 is 155, 115 beside a B: above 99.
        due("6 stands", x.on(4, 1), 0);
        due("6 the greatest by itself again", x.roof(0, 6), 125);
        due("6 GONE", x.on(4, 1), 1);
        due("6 not what it did not stand", x.roof(0, 6), 125);
    }

    private static void thought() {
        RoofsOfSnow x = laid("r20,0,0,999,7,8;r50,0,0,999,0,8;r0,0,0,99,0,8;"
                + "b0,19,1;b0,20,2;b0,21,3;b0,500,4;b1,49,10;");
        due("7 all", x.thought(0, -1), 9);
        due("7 below", x.thought(0, 0), 0);
        due("7 no less", x.thought(0, 1), 2);
        due("7 third", x.thought(0, 2), 3);
        due("7 fourth", x.thought(0, 3), 4);
        due("7 k 4", x.thought(0, 4), BAD);
        due("7 k -2", x.thought(0, -2), BAD);
        due("7 GONE", x.thought(1, -1), NO);
        due("7 GONE, k", x.thought(1, 3), NO);
        due("7 BAD first", x.thought(1, 4), BAD);
        due("7 ROOF 3", x.thought(3, 0), BAD);
        due("7 500 by 10", x.thought(2, 0), 10);
        due("7 none told", x.thought(2, 1), 0);
        // 500 without any: that is borne, 501 is not.
        due("7 500", laid("r200,200,0,999,0,8;").goes(0, 50, 0), 0);
        due("7 501", laid("r200,199,0,999,0,8;").goes(0, 51, 0), 1);
    }

    private static void now() {
        RoofsOfSnow x = laid("r20,0,0,999,7,8;r0,0,0,999,0,8;b0,19,10;s2;s1;h4,2;");
        due("8 HOUR", x.now(0), 0);
        due("8 SKY as told last", x.now(1), 1);
        due("8 hands", x.now(2), 4);
        due("8 stand", x.now(3), 2);
        x.on(0, 2);
        due("8 next HOUR", x.now(0), 1);
        due("8 SKY then", x.now(1), 2);
        due("8 4", x.now(4), BAD);
        due("8 -1", x.now(-1), BAD);
    }

    private static final String CREAKY = "r10,20,5,999,7,8;b0,38,2;b0,39,3;b0,40,5;g4;";

    private static void creak() {
        // PRESS 35: by 4 less than 39.
        RoofsOfSnow x = laid(CREAKY);
        due("9 heard", x.creak(0, true), 2);
        due("9 not heard then", x.creak(0, false), NO);
        due("9 as it was", x.thought(0, 0), 2);
        due("9 creaks", x.count(3), 1);
        x = laid(CREAKY);
        due("9 not heard", x.creak(0, false), 8);
        due("9 the first is out", x.thought(0, 0), 0);
        due("9 heard then", x.creak(0, true), NO);
        due("9 ROOF 1", x.creak(1, true), BAD);
        due("9 ROOF -1", x.creak(-1, true), BAD);
        // 10 without: below 45 all.
        x = laid("r10,20,5,999,7,8;b0,44,2;b0,45,8;");
        due("9 10 without", x.creak(0, true), 2);
        x = laid("r10,20,5,999,7,8;b0,34,10;");
        due("9 GONE", x.creak(0, true), NO);
        // A prop that is done: 35 less 20 and 4.
        x = laid("r10,20,5,999,7,8;b0,38,5;b0,40,5;g4;o20,1;");
        x.prop(0);
        due("9 not done yet", x.creak(0, true), 5);
        x = laid("r10,20,5,999,7,8;b0,38,5;b0,40,5;g4;h0,1;o20,1;");
        x.prop(0);
        x.on(4, 0);
        due("9 less the prop", x.creak(0, true), NO);
        due("9 less the prop, not heard", x.creak(0, false), 10);
    }

    private static void creaksFull() {
        RoofsOfSnow x = laid("r10,20,5,999,7,8;r0,0,0,999,7,8;r9,0,0,99,0,8;b2,8,10;");
        for (int i = 0; i < 20; i++) {
            due("9 creak " + i, x.creak(i % 2, false), 10);
        }
        due("9 20 of all", x.creak(0, false), FULL);
        due("9 of all", x.creak(1, false), FULL);
        due("9 NO ahead of FULL", x.creak(0, true), NO);
        due("9 GONE ahead of FULL", x.creak(2, false), NO);
        due("9 BAD ahead of FULL", x.creak(3, false), BAD);
        due("9 twenty", x.count(3), 20);
    }

    private static void goes() {
        RoofsOfSnow x = laid("r10,20,5,999,7,8;r9,0,0,99,0,8;b0,39,4;b0,60,6;b1,8,10;");
        due("10 none", x.goes(0, 0, 0), 0);
        due("10 of one", x.goes(0, 0, 1), 1);
        due("10 39 bears 39", x.goes(0, 2, 0), 0);
        due("10 lowest terms", x.goes(0, 3, 0), 2);
        due("10 of five", x.goes(0, 3, 1), 5);
        due("10 all", x.goes(0, 200, 0), 1);
        due("10 of one then", x.goes(0, 200, 1), 1);
        due("10 x 201", x.goes(0, 201, 0), BAD);
        due("10 x -1", x.goes(0, -1, 0), BAD);
        due("10 part 2", x.goes(0, 0, 2), BAD);
        due("10 part -1", x.goes(0, 0, -1), BAD);
        due("10 ROOF 2", x.goes(2, 0, 0), BAD);
        due("10 ROOF -1", x.goes(-1, 0, 0), BAD);
        due("10 GONE", x.goes(1, 0, 0), NO);
        due("10 BAD ahead of GONE", x.goes(1, 0, 2), BAD);
        // By those that stay: 4 of 7; a prop lifts it.
        x = laid("r11,0,0,999,7,8;b0,10,3;b0,12,4;b0,20,3;o9,1;h0,1;");
        due("10 four", x.goes(0, 1, 0), 4);
        due("10 of seven", x.goes(0, 1, 1), 7);
        x.prop(0);
        x.on(4, 0);
        due("10 propped", x.goes(0, 1, 0), 0);
        due("10 up to 21", x.goes(0, 5, 0), 0);
        due("10 above 21", x.goes(0, 6, 0), 4);
    }

    private static void tell() {
        RoofsOfSnow x = laid("r5,6,0,999,7,8;r7,8,0,99,0,8;b1,8,10;h1,2;");
        due("11 0, 0 at first", x.tell(0, 1), 0);
        due("11 as it was", x.tell(1, 1), 1);
        due("11 side 2", x.tell(0, 2), BAD);
        due("11 side -1", x.tell(0, -1), BAD);
        due("11 ROOF 2", x.tell(2, 0), BAD);
        due("11 ROOF -1", x.tell(-1, 0), BAD);
        due("11 a ROOF that is GONE can be told", x.now(3), 1);
        x.on(3, 0);
        due("11 nothing lies there", x.roof(0, 0) + x.roof(0, 1), 11);
        due("11 3", x.tell(0, 1), 3);
        x.on(3, 0);
        due("11 SIDE 1 is cleared", x.roof(0, 1), 4);
        due("11 still told", x.tell(0, 1), 1);
    }

    private static void onHands() {
        // Three hands at the deepest: 30 on 1,0; then 21 on 0,1; then 20 on 0,0 as 1,0 has 20.
        RoofsOfSnow x = laid("r20,21,0,999,7,1;r30,5,0,99,0,8;h3,10;");
        due("12 none gone", x.on(0, 0), 0);
        due("12 first 1,0 to 20, then 0,1 on to it", x.roof(0, 1), 11);
        due("12 30 again, cleared again", x.roof(1, 0), 20);
        due("12 untouched", x.roof(0, 0), 20);
        // Less if there is less; what falls on a ROOF that is GONE is away.
        x = laid("r7,0,0,999,7,1;r9,0,0,99,0,8;b1,8,10;h2,10;");
        due("12 one stands", x.now(3), 1);
        x.on(0, 0);
        due("12 all cleared", x.roof(0, 0), 0);
        due("12 away", x.roof(1, 0), 0);
        x = laid("r7,0,0,999,7,1;r0,0,0,99,0,8;h1,10;");
        x.on(0, 0);
        due("12 seven", x.roof(1, 0), 7);
        due("12 rule 5", x.on(5, 0), BAD);
        due("12 rule -1", x.on(-1, 0), BAD);
        due("12 sky 3", x.on(0, 3), BAD);
        due("12 sky -1", x.on(0, -1), BAD);
        due("12 nothing changes", x.now(0), 1);
        // 1 hand of 10 without.
        x = laid("r25,0,0,999,7,8;");
        x.on(0, 0);
        due("12 1, 10 without", x.roof(0, 0), 15);
        x = laid("r25,0,0,999,7,8;h0,50;");
        x.on(0, 0);
        due("12 no hands", x.roof(0, 0), 25);
    }

    private static void onWeather() {
        // Behind the hands 19: of these 0.3, cut 5, and 8; of 27 0.3, cut 8, and 2.
        RoofsOfSnow x = laid("r29,27,0,999,7,8;r0,0,0,9,0,0;h1,10;k1,8,2,3;k2,9,10,0;");
        x.on(0, 1);
        due("12 SIDE 0", x.roof(0, 0), 32);
        due("12 SIDE 1", x.roof(0, 1), 37);
        due("12 where nothing lay", x.roof(1, 0), 8);
        due("12 the last sky's", x.now(1), 1);
        x.on(4, 2);
        due("12 slides down to 9, away", x.roof(1, 0), 9);
        due("12 slides down to 9", x.roof(1, 1), 9);
        due("12 what slides falls on none", x.roof(0, 0), 41);
        // FELT behind the slide alone.
        x = laid("r0,0,0,10,0,8;b0,20,10;k1,60,60,0;h0,1;");
        due("12 as it slid", x.on(4, 1), 0);
        due("12 20 stood", x.roof(0, 6), 20);
        // The snow that was told slides only in an HOUR.
        x = laid("r50,0,0,10,0,8;h0,1;");
        due("12 not yet", x.roof(0, 0), 50);
        x.on(4, 0);
        due("12 then", x.roof(0, 0), 10);
        // Of several such the last one counts.
        x = laid("r0,0,0,99,0,8;k1,60,60,9;k1,1,2,0;h9,50;h0,1;");
        x.on(4, 1);
        due("12 the last k", x.roof(0, 0) * 10 + x.roof(0, 1), 12);
    }

    private static void onGone() {
        RoofsOfSnow x = laid("r10,0,0,99,0,8;r10,0,0,99,0,8;r10,0,0,99,0,0;"
                + "b0,15,5;b0,25,5;b1,14,10;b2,15,10;k1,5,0,0;h0,1;");
        due("12 ROOF 1 by 15", x.on(4, 1), 2);
        due("12 two stand", x.now(3), 5);
        due("12 15 bears 15", x.thought(0, 0), 5);
        due("12 both others by 20 or not", x.on(4, 1), 4);
        due("12 15 is out", x.thought(0, 0), 0);
        due("12 25 stays", x.thought(0, -1), 5);
        due("12 no snow on what is GONE", x.roof(1, 0), 0);
        due("12 25", x.on(4, 1), 0);
        due("12 30", x.on(4, 1), 1);
        due("12 none stands", x.now(3), 0);
        due("12 none more", x.on(0, 1), 0);
        // A B of no tenths is none of the CHANCES.
        x = laid("r10,0,0,99,0,8;b0,14,10;b0,99,0;k1,5,0,0;h0,1;");
        due("12 B by 0 tenths", x.on(4, 1), 1);
    }

    private static void onProps() {
        RoofsOfSnow x = laid("r10,0,0,99,0,8;b0,12,10;k1,5,0,0;h0,1;o8,2;");
        due("12 one prop", x.prop(0), 1);
        due("12 no sky", x.on(4, 0), 0);
        x.keep();
        due("12 done behind this HOUR: 15 less 8", x.on(4, 1), 0);
        due("12 eight", x.roof(0, 3), 8);
        due("12 20 less 8", x.on(4, 1), 0);
        due("12 25 less 8", x.on(4, 1), 1);
        x.back();
        due("12 not done", x.roof(0, 3), 0);
        due("12 one", x.roof(0, 4), 1);
        due("12 a second", x.prop(0), 2);
        x.on(4, 0);
        due("12 the first alone", x.roof(0, 3), 8);
        x.on(4, 0);
        due("12 both", x.roof(0, 3), 16);
        // The props of a GONE one get nearer like all.
        x = laid("r10,0,0,99,0,8;b0,12,10;k1,5,0,0;h0,1;o2,2;");
        x.prop(0);
        due("12 15 with a prop that is not done", x.on(4, 1), 1);
        due("12 not done, of a GONE one", x.roof(0, 3), 0);
        x.on(4, 0);
        due("12 done, of a GONE one", x.roof(0, 3), 2);
    }

    /** Which spot a hand that clears one is sent to; NONE: nothing is cleared. */
    private static void hand(String what, String text, int rule, int sky, int want) {
        RoofsOfSnow x = laid(text + "h0,1;");
        RoofsOfSnow y = laid(text + "h1,1;");
        int spot = NONE;
        x.on(rule, sky);
        y.on(rule, sky);
        for (int s = 0; s < 2 * x.count(0); s++) {
            if (x.roof(s / 2, s % 2) != y.roof(s / 2, s % 2)) {
                spot = s;
            }
        }
        due("12 rule " + rule + ", " + what, spot, want);
    }

    private static void rules() {
        hand("the most", "r3,4,0,9,0,8;r5,2,0,9,0,8;", 0, 0, 2);
        hand("like ones", "r3,5,0,9,0,8;r5,5,0,9,0,8;", 0, 0, 1);
        hand("nothing lies", "r0,0,0,9,0,8;", 0, 0, NONE);
        String weak = "b0,20,5;b0,40,5;b1,20,6;b1,40,4;k1,0,17,0;k2,17,0,0;";
        // 3 and 4 and 17: above 20 for both; 6 of 10 is more than 5 of 10.
        hand("the greater part", "r3,4,0,99,0,8;r3,4,0,99,0,8;" + weak, 1, 1, 3);
        hand("like parts", "r3,4,0,99,0,8;r3,4,0,99,0,8;" + weak, 1, 0, 1);
        hand("as if there were more", "r5,3,0,99,0,8;r1,2,0,99,0,8;" + weak, 1, 2, 0);
        hand("uneven by the sky", "r5,5,1,99,0,8;r6,0,20,99,0,8;b0,26,10;b1,26,5;b1,99,5;k1,14,0,0;",
                1, 1, 2);
        hand("D of this SKY", "r3,4,0,99,0,8;r3,4,0,99,0,8;b0,20,5;b0,40,5;b1,20,6;b1,40,4;k1,0,17,0;"
                + "k2,5,0,0;", 1, 1, 3);
        hand("like sides", "r0,0,0,99,0,8;r4,4,0,99,0,8;" + weak, 1, 1, 2);
        hand("of those that stay", "r11,0,0,99,0,8;r11,0,0,99,0,8;b0,5,6;b0,12,4;b1,12,5;b1,40,5;"
                + "k1,2,0,0;", 1, 1, 0);
        hand("nothing lies", "r0,0,0,9,0,8;", 1, 1, NONE);
        String people = "p1,3;p2,3;p0,9;p3,2;";
        hand("most sleep, of those with snow", "r0,0,0,9,0,8;r1,2,0,9,0,8;r9,9,0,9,0,8;r9,9,0,9,0,8;"
                + people, 2, 0, 3);
        hand("more lies on SIDE 0", "r2,1,0,9,0,8;p0,1;", 2, 0, 0);
        hand("like sides", "r2,2,0,9,0,8;", 2, 0, 0);
        hand("on SIDE 0 alone", "r1,0,0,9,0,8;r1,0,0,9,0,8;p1,1;", 2, 0, 2);
        hand("none asleep", "r0,0,0,9,0,8;r0,1,0,9,0,8;", 2, 0, 3);
        hand("nothing lies", "r0,0,0,9,0,8;", 2, 0, NONE);
        hand("0, 0 at first", "r1,5,0,9,0,8;r5,5,0,9,0,8;", 3, 0, 0);
        hand("nothing lies there", "r0,5,0,9,0,8;r5,5,0,9,0,8;", 3, 0, NONE);
        hand("none", "r5,5,0,9,0,8;", 4, 0, NONE);
        hand("a GONE one", "r9,9,0,99,0,8;r1,1,0,9,0,8;b0,5,10;p0,9;", 2, 0, 2);
        // Hand by hand by what lies then: 10, 9, 8.
        RoofsOfSnow x = laid("r10,0,0,99,0,1;r0,7,0,99,0,8;p0,5;p1,4;h3,4;");
        x.on(2, 0);
        due("12 2 left at last", x.roof(0, 0), 0);
        due("12 4, 4, 2 fell", x.roof(1, 0), 10);
        x = laid("r6,0,0,99,0,1;r0,7,0,99,0,8;p0,5;p1,4;h3,4;");
        x.on(2, 0);
        due("12 the third hand goes on", x.roof(1, 1) * 100 + x.roof(1, 0), 306);
        weakBesides();
    }

    /** WEAK: S and D more alone, no water, nothing slides; less props that are done. */
    private static void weakBesides() {
        hand("no water", "r20,0,0,999,0,8;r10,0,0,999,0,8;b0,22,5;b0,99,5;b1,11,5;b1,99,5;k1,2,0,5;",
                1, 1, 2);
        // 14 and 5 is above 15, though it slides down to that; it falls on ROOF 0.
        RoofsOfSnow x = laid("r10,0,0,99,0,8;r14,0,0,15,0,0;b0,99,10;b1,15,10;k1,5,0,0;h1,1;");
        x.on(1, 1);
        due("12 as if nothing slid", x.roof(0, 0), 16);
        // 26 and 5 is above 30, but not less 20; 10 and 5 is above 12.
        x = laid("r30,0,0,999,0,8;r10,0,0,999,0,8;b0,30,10;b1,12,10;k1,5,0,0;h1,4;o20,1;");
        x.prop(0);
        x.on(3, 0);
        due("12 TOLD: ROOF 0", x.roof(0, 0), 26);
        x.on(1, 1);
        due("12 less the prop: ROOF 1", x.roof(1, 0) * 100 + x.roof(0, 0), 1131);
    }

    private static void sky() {
        RoofsOfSnow x = new RoofsOfSnow();
        due("13 3", x.sky(3), BAD);
        due("13 -1", x.sky(-1), BAD);
        for (int i = 1; i <= 12; i++) {
            due("13 sky " + i, x.sky(i % 3), i);
        }
        due("13 full", x.sky(0), FULL);
        due("13 BAD ahead of FULL", x.sky(3), BAD);
        due("13 twelve", x.count(2), 12);
        due("14 how many it had", x.noSkies(), 12);
        due("14 none", x.noSkies(), 0);
        due("14 empty", x.count(2), 0);
        due("13 the first again", x.sky(2), 1);
        x.on(0, 2);
        due("13 stays as HOURS go by", x.count(2), 1);
        due("14 one", x.noSkies(), 1);
    }

    private static void loss() {
        RoofsOfSnow x = laid("r0,0,0,999,3,8;b0,8,5;b0,20,5;p0,2;k1,8,0,0;h0,1;l10;");
        due("15 empty row", x.loss(0), 0);
        Check.skies(x, 1);
        due("15 8 bears 8", x.loss(4), 0);
        Check.skies(x, 1, 1);
        due("15 half of 23", x.loss(4), 11500000);
        Check.skies(x, 1, 1, 1);
        due("15 all of 23", x.loss(4), 23000000);
        due("15 rule 5", x.loss(5), BAD);
        due("15 rule -1", x.loss(-1), BAD);
        due("15 nothing changes", x.roof(0, 0) + x.now(0) + x.now(1), 0);
        // 100 a life without; the greatest PRESS, not the last one.
        x = laid("r30,0,0,999,0,8;b0,35,10;p0,1;k1,6,0,0;h1,10;");
        Check.skies(x, 1, 0, 0);
        due("15 the greatest", x.loss(4), 100000000);
        x = laid("r30,0,0,999,0,8;b0,35,10;p0,1;k1,6,0,0;h1,10;k2,9,0,0;");
        Check.skies(x, 1, 1, 0);
        due("15 cleared in time", x.loss(0), 0);
        Check.skies(x, 2, 2, 2);
        due("15 27 alone", x.loss(0), 0);
        due("15 39 at first", x.loss(4), 100000000);
    }

    private static void lossOfSeveral() {
        // 4 of 7 of 1, cut, twice.
        String two = "r11,0,0,999,1,8;r11,0,0,999,1,8;b0,10,3;b0,12,4;b0,30,3;b1,10,3;b1,12,4;b1,30,3;"
                + "k1,8,0,0;h0,1;";
        RoofsOfSnow x = laid(two);
        Check.skies(x, 1);
        due("15 cut, then together", x.loss(4), 1142856);
        // CHANCES being those of now, to the end; all ROOFS stand to the end.
        x = laid("r11,0,0,999,5,1;r0,0,0,999,1,8;b0,12,10;b1,19,10;h1,11;k1,9,0,0;");
        Check.skies(x, 1);
        due("15 thrown", x.loss(0), 1000000);
        due("15 not thrown", x.loss(4), 5000000);
        Check.skies(x, 1, 1);
        // Behind the first HOUR 9 and 20; then DEEP is 1, to the ground: 18 and 18.
        due("15 twice", x.loss(0), 6000000);
        x = laid("r9,0,0,99,7,8;r0,0,0,99,1,8;b0,8,10;b1,3,10;k1,4,0,0;h0,1;");
        Check.skies(x, 1);
        due("15 not what is GONE", x.loss(4), 1000000);
        // Less what props add then: 20 less 5.
        x = laid("r10,0,0,99,2,8;b0,15,10;k1,5,0,0;h0,1;o5,2;");
        x.prop(0);
        Check.skies(x, 1, 1);
        due("15 propped in time", x.loss(4), 0);
        Check.skies(x, 1, 1, 1);
        due("15 not for all", x.loss(4), 2000000);
        x = laid("r10,0,0,99,2,8;b0,12,10;k1,5,0,0;h0,1;o5,2;");
        x.prop(0);
        Check.skies(x, 1, 1);
        due("15 too late", x.loss(4), 2000000);
        // The SKY of each HOUR is WEAK's: by SKY 1 ROOF 1 is weak.
        x = laid("r9,0,0,99,1,8;r9,0,0,99,2,8;b0,12,10;b1,12,10;k1,4,0,0;h1,9;");
        Check.skies(x, 1);
        due("15 WEAK", x.loss(1), 2000000);
    }

    private static void over() {
        RoofsOfSnow x = laid("r0,0,0,999,1,8;b0,8,5;b0,20,5;k1,9,0,0;k2,21,0,0;c0,2,3,5;c1,10,0,0;"
                + "c2,0,0,10;h0,1;");
        // 3 tenths of a half, 5 tenths of all.
        due("16 one HOUR", x.over(4, 1), 650000);
        // 0 then 0: 4 hundredths of none; 0, 1: 6 of a half; 0, 2: 10 of all; 1, 0: 30 of a half;
        // 2, 2: 50 of all.
        due("16 two HOURS", x.over(4, 2), 780000);
        due("16 n 0", x.over(4, 0), BAD);
        due("16 n 6", x.over(4, 6), BAD);
        due("16 rule 5", x.over(5, 1), BAD);
        due("16 rule -1", x.over(-1, 1), BAD);
        x.sky(0);
        due("16 not by the told row", x.over(4, 1), 650000);
        x.on(4, 1);
        due("16 behind SKY 1 comes 0", x.over(4, 1), 0);
        // 8 is out: 5 tenths of all.
        due("16 then as behind 0", x.over(4, 2), 500000);
        due("16 now 1", x.now(1) * 10 + x.now(0), 11);
        for (int ahead = 0; ahead < 3; ahead++) {
            for (int k = 0; k < 3; k++) {
                x = laid("r0,0,0,999,1,8;b0,8,10;h0,1;s" + ahead + ";k" + k + ",9,0,0;");
                due("16 4, 3, 3 without: " + k, x.over(4, 1), k == 0 ? 400000 : 300000);
            }
        }
        x = laid("r0,0,0,999,1,8;r8,0,0,999,0,8;b0,8,3;b0,40,7;k1,9,0,0;h0,1;c0,9,1,0;c0,0,1,9;s2;"
                + "c2,7,3,0;");
        due("16 from the SKY told", x.over(4, 1), 90000);
        // 1 of 7: 142857 by 3 tenths, cut at the end alone.
        x = laid("r6,0,0,999,1,8;b0,5,3;b0,7,1;b0,999,6;k1,9,0,0;h0,1;c0,1,9,0;c1,1,9,0;");
        due("16 cut", x.over(4, 1), 128571);
        due("16 cut at the end", x.over(4, 5), 142855);
        x = laid("r6,0,0,999,1,8;b0,5,3;b0,7,1;b0,999,6;k1,9,0,0;h0,1;c0,3,7,0;");
        due("16 cut just below", x.over(4, 1), 99999);
    }

    private static void best() {
        // By 12 less the first bears; the other bears with 20.
        RoofsOfSnow x = laid("r20,5,0,999,9,1;r9,0,0,999,3,8;b0,20,5;b0,26,5;b1,10,10;k1,2,0,0;"
                + "h1,8;");
        due("17 no row", x.best(1, -1), NO);
        Check.skies(x, 1);
        // 0,0: 19 and 19: 3; 0,1: 22 and 16 (5 thrown): half of 9 and 3; 1,0: 27 and 3: 9.
        due("17 least", x.best(1, -1), 3000000);
        due("17 0,0", x.best(1, 0), 0);
        due("17 i 1", x.best(1, 1), BAD);
        due("17 i -2", x.best(1, -2), BAD);
        due("17 n 0", x.best(0, -1), BAD);
        due("17 n 4", x.best(4, -1), BAD);
        due("17 n 4 ahead of NO", x.best(4, 0), BAD);
        due("17 shorter", x.best(2, -1), NO);
        due("17 BAD ahead of NO", x.best(2, 2), BAD);
        due("17 nothing changes", x.roof(0, 0), 20);
        // Two ROOFS, one hand: each is to be cleared ahead of the end of HOUR 1.
        x = laid("r10,0,0,999,9,8;r0,10,0,999,3,8;b0,14,10;b1,14,10;k1,5,0,0;k2,0,0,0;h1,10;");
        Check.skies(x, 2, 1, 1);
        due("17 one HOUR", x.best(1, -1), 0);
        due("17 only the first n", x.best(1, 0), 0);
        due("17 two HOURS", x.best(2, -1), 0);
        due("17 first of such", x.best(2, 0) * 100 + x.best(2, 1), 3);
        due("17 three HOURS", x.best(3, -1), 0);
        due("17 HOUR 0", x.best(3, 0), 0);
        due("17 HOUR 1", x.best(3, 1), 3);
        due("17 HOUR 2", x.best(3, 2), 0);
        Check.skies(x, 1, 1, 0);
        due("17 too late for both", x.best(2, -1), 3000000);
        due("17 the worthier one", x.best(2, 0) * 100 + x.best(2, 1), 0);
        // Either way in two HOURS: the first row of such.
        Check.skies(x, 0, 0);
        due("17 none needed", x.best(2, 0) * 100 + x.best(2, 1), 0);
    }

    private static void bestTies() {
        // Clearing makes it uneven: none is best.
        RoofsOfSnow x = laid("r10,10,20,999,9,8;b0,22,10;h1,5;");
        Check.skies(x, 0, 0);
        due("17 none", x.best(1, 0), 16);
        due("17 none twice", x.best(2, 1) * 100 + x.best(2, 0), 1616);
        due("17 none lost", x.best(2, -1), 0);
        // All hands at one SIDE: 30 of them.
        x = laid("r30,5,0,999,9,8;b0,35,10;h3,10;k1,0,25,0;");
        Check.skies(x, 1);
        due("17 all hands", x.best(1, -1), 0);
        x = laid("r5,30,0,999,9,8;b0,35,10;h3,10;k1,25,0,0;");
        Check.skies(x, 1);
        due("17 all hands at the other: none lost", x.best(1, -1), 0);
        due("17 all hands at the other", x.best(1, 0), 1);
        // Only ROOFS that stand.
        x = laid("r9,0,0,999,9,8;r5,0,0,999,9,8;b0,8,10;h1,1;");
        Check.skies(x, 0);
        due("17 ROOF 0 is GONE", x.best(1, 0), 2);
        x = laid("r9,0,0,999,9,8;b0,8,10;h1,1;");
        Check.skies(x, 0, 0, 0);
        due("17 all GONE", x.best(3, 2), 16);
        due("17 all GONE: lost", x.best(3, -1), 0);
        // With no hands all are alike.
        x = laid("r9,0,0,999,9,8;b0,10,10;h0,1;k1,9,0,0;");
        Check.skies(x, 1, 1);
        due("17 the first", x.best(2, 0) + x.best(2, 1), 0);
        due("17 lost", x.best(2, -1), 9000000);
    }

    private static void first() {
        RoofsOfSnow x = laid("r10,20,20,999,9,8;r9,0,0,9,0,8;b0,50,10;b1,8,10;h1,10;k1,5,0,0;");
        due("18 no row", x.first(0), NO);
        Check.skies(x, 1);
        // By SIDE 0 5 and 20: 55; by SIDE 1 15 and 10: 35.
        due("18 SIDE 1", x.first(0), 1);
        due("18 GONE", x.first(1), NO);
        due("18 ROOF 2", x.first(2), BAD);
        due("18 ROOF -1", x.first(-1), BAD);
        x.noSkies();
        due("18 BAD ahead of NO", x.first(2), BAD);
        x = laid("r10,10,20,999,9,8;b0,29,10;h1,10;");
        Check.skies(x, 0);
        due("18 like ones", x.first(0), 0);
        x = laid("r20,10,20,999,9,8;b0,50,10;h1,10;k1,0,5,0;");
        Check.skies(x, 1);
        due("18 SIDE 0", x.first(0), 0);
        // Then by DEEP: 10 and 25 at last, either way; not 0 and 35 or 20 and 20, as by the same
        // SIDE again, nor 10 and 35 or 20 and 25, as by none.
        x = laid("r20,15,10,999,9,8;b0,50,10;h1,10;k1,0,20,0;");
        Check.skies(x, 0, 1);
        due("18 then by DEEP", x.first(0), 0);
        // 2 hands: 5, 0 and 20 or 0, 20 and 20.
        x = laid("r5,20,0,999,9,8;b0,25,10;h2,10;k1,20,0,0;");
        Check.skies(x, 1);
        due("18 all hands", x.first(0), 1);
        // Of ROOF 1: 40, 35 or with none at it 50.
        RoofsOfSnow y = laid("r9,0,0,999,9,8;r10,20,0,999,9,8;b1,37,10;h1,15;k1,20,0,0;");
        Check.skies(y, 1);
        due("18 SIDE 1 of ROOF 1", y.first(1), 1);
        y = laid("r9,0,0,999,9,8;r20,10,0,999,9,8;b1,37,10;h1,15;k1,20,0,0;");
        Check.skies(y, 1);
        due("18 SIDE 0 of ROOF 1", y.first(1), 0);
        y = laid("r9,0,0,999,9,8;r10,20,0,999,9,8;b1,40,10;h1,15;k1,20,0,0;");
        Check.skies(y, 1);
        due("18 either SIDE of ROOF 1", y.first(1), 0);
        x.tell(0, 1);
        due("18 whatever is TOLD", x.first(0), 1);
        due("18 TOLD stays", x.tell(0, 0), 1);
    }

    private static void more() {
        RoofsOfSnow x = laid("r30,0,0,999,9,8;b0,25,10;b0,9,0;h1,10;");
        due("19 empty row", x.more(0, 9), 0);
        x = laid("r30,0,0,999,9,8;b0,30,10;h1,10;k1,11,0,0;k2,20,0,0;");
        Check.skies(x, 1);
        due("19 as many", x.more(0, 0), 9000000);
        due("19 one more", x.more(0, 1), 0);
        due("19 with none it helps not", x.more(4, 9), 9000000);
        Check.skies(x, 2, 2);
        due("19 as many are too few", x.more(0, 0), 9000000);
        due("19 one more in each HOUR", x.more(0, 1), 0);
        due("19 10", x.more(0, 10), BAD);
        due("19 -1", x.more(0, -1), BAD);
        due("19 rule 5", x.more(5, 1), BAD);
        due("19 rule -1", x.more(-1, 1), BAD);
        due("19 the hands stay", x.now(2), 1);
        due("19 9", x.more(0, 9), 0);
    }

    private static void prop() {
        RoofsOfSnow x = laid("r9,0,0,9,0,8;r0,0,0,9,0,8;b0,8,10;");
        due("20 ROOF 2", x.prop(2), BAD);
        due("20 ROOF -1", x.prop(-1), BAD);
        due("20 GONE", x.prop(0), NO);
        due("20 one", x.prop(1), 1);
        due("20 two", x.prop(1), 2);
        due("20 three", x.prop(1), 3);
        due("20 full", x.prop(1), FULL);
        due("20 three stay", x.roof(1, 4), 3);
        due("20 none done", x.roof(1, 3), 0);
        x.on(4, 0);
        x.on(4, 0);
        x.on(4, 0);
        due("20 50 in 3 HOURS without", x.roof(1, 3), 150);
        x.on(4, 0);
        due("20 for good", x.roof(1, 3), 150);
        due("20 full for good", x.prop(1), FULL);
        // A GONE one with three: NO ahead of FULL.
        x = laid("r9,0,0,99,0,8;b0,9,10;k1,9,0,0;h0,1;o0,20;");
        x.prop(0);
        x.prop(0);
        x.prop(0);
        due("20 gone", x.on(4, 1), 1);
        due("20 NO ahead of FULL", x.prop(0), NO);
        due("21 NO ahead of FULL", x.instead(0, 0), NO);
    }

    private static void instead() {
        RoofsOfSnow x = laid("r30,0,0,999,9,8;r0,0,0,999,9,8;b0,29,10;b0,8,0;h1,10;o10,1;");
        due("21 GONE", x.now(3), 2);
        due("21 NO", x.instead(0, 0), NO);
        due("21 BAD rule ahead of NO", x.instead(5, 0), BAD);
        // By one hand in the first HOUR 30 less 10; by a prop what lies less 10.
        x = laid("r30,0,0,999,9,8;b0,30,10;h1,10;o10,1;k1,9,0,0;k2,21,0,0;");
        due("21 empty row", x.instead(0, 0), 0);
        Check.skies(x, 1);
        due("21 39 less 10", x.instead(0, 0), 0);
        Check.skies(x, 2);
        due("21 51 less 10", x.instead(0, 0), 9000000);
        due("21 by the hand", x.loss(0), 9000000);
        Check.skies(x, 1, 1);
        // 39, then 29 and 9, less 10.
        due("21 the hand is there again", x.instead(0, 0), 0);
        due("21 no hand", x.instead(4, 0), 9000000);
        due("21 rule -1", x.instead(-1, 0), BAD);
        due("21 ROOF 1", x.instead(0, 1), BAD);
        due("21 ROOF -1", x.instead(0, -1), BAD);
        due("21 none is put", x.roof(0, 4), 0);
        x = laid("r30,0,0,999,9,8;b0,30,10;h0,10;o10,2;k1,9,0,0;");
        Check.skies(x, 1);
        due("21 not in time, no hand to lose", x.instead(0, 0), 9000000);
        // One of two hands: 36 or 35, less 5; in the next HOUR both: 31 less 5.
        x = laid("r30,0,0,999,9,8;b0,30,10;h2,10;o5,1;k1,16,0,0;k2,15,0,0;");
        Check.skies(x, 1);
        due("21 both hands", x.loss(0), 0);
        due("21 one hand fewer", x.instead(0, 0), 9000000);
        Check.skies(x, 2);
        due("21 not two hands fewer", x.instead(0, 0), 0);
        Check.skies(x, 2, 1);
        due("21 in the first HOUR alone", x.instead(0, 0), 0);
        x = laid("r0,0,0,999,9,8;");
        x.prop(0);
        x.prop(0);
        due("21 a third", x.instead(0, 0), 0);
        x.prop(0);
        due("21 full", x.instead(0, 0), FULL);
        due("21 BAD ahead of FULL", x.instead(5, 0), BAD);
    }

    private static void look() {
        // One hand, two ROOFS that go at 15 or not: ROOF 0 by a half, of 9; ROOF 1 all, of 6.
        RoofsOfSnow x = laid("r15,0,0,999,9,8;r15,0,0,999,6,8;r9,0,0,9,0,8;b0,18,5;b0,99,5;"
                + "b1,18,10;b2,8,10;k1,4,0,0;k2,60,60,0;h1,10;");
        due("22 no row", x.look(0), NO);
        Check.skies(x, 1);
        // BEST clears ROOF 1: 4500000. Known 18: ROOF 0, 6000000; known 99: ROOF 1, none.
        due("22 best", x.best(1, -1), 4500000);
        due("22 rain", x.rain(9), 0);
        due("22 known", x.look(0), 1500000);
        due("22 nothing to know", x.look(1), 0);
        Check.skies(x, 1, 2);
        due("22 by 1 HOUR", x.look(0), 1500000);
        due("22 GONE", x.look(2), NO);
        due("22 ROOF 3", x.look(3), BAD);
        due("22 ROOF -1", x.look(-1), BAD);
        due("22 nothing changes", x.thought(0, -1), 10);
        // Over the CHANCES that stay: 3 and 4 of 7; by 1 HOUR alone.
        x = laid("r15,0,0,999,9,8;r15,0,0,999,6,8;b0,14,3;b0,18,3;b0,99,4;b1,18,10;k1,4,0,0;h1,10;");
        Check.skies(x, 1, 0);
        due("22 best then", x.best(1, -1), 3857142);
        // 3857142 by 7 less 3 by 6000000, by 7.
        due("22 cut", x.look(0), (3857142L * 7 - 18000000) / 7);
        // What is cut may leave less than none: by all CHANCES that is cut to none.
        x = laid("r11,0,0,999,1,8;b0,10,3;b0,12,4;b0,30,3;k1,8,0,0;h0,1;");
        Check.skies(x, 1);
        due("22 cut to none", x.look(0), 0);
    }

    private static void rain() {
        RoofsOfSnow x = laid("r10,0,0,99,0,8;r10,0,0,99,0,8;r10,0,0,99,0,8;r9,0,0,9,0,8;r50,0,0,15,0,8;"
                + "b0,11,10;b1,11,0;b1,13,10;b2,13,1;b2,14,9;b3,8,10;b4,50,10;k2,1,0,1;h9,50;k1,60,60,0;");
        // 10, 12, 14, 16; the last one slides to 15.
        due("23 one HOUR", x.rain(1), 2 + 4 + 16);
        due("23 two HOURS", x.rain(2), 16);
        due("23 nine HOURS", x.rain(9), 16);
        due("23 0", x.rain(0), BAD);
        due("23 10", x.rain(10), BAD);
        due("23 nothing changes", x.now(0) + x.roof(0, 0), 10);
        x = laid("r10,0,0,99,0,8;b0,11,10;k2,1,0,1;o5,2;");
        x.prop(0);
        due("23 the prop is late", x.rain(2), 0);
        x.on(4, 0);
        due("23 the prop in time", x.rain(2), 1);
    }

    private static void out() {
        RoofsOfSnow x = laid("r10,0,0,99,0,8;r9,0,0,9,0,8;b0,19,2;b0,29,3;b0,39,5;b1,8,10;k1,10,0,0;"
                + "k2,5,0,0;k0,10,0,0;h1,20;");
        due("24 no row", x.out(0, 4, 1, 100, 0), NONE);
        Check.skies(x, 1, 1, 1);
        due("24 2 of 10 by HOUR 1", x.out(0, 4, 1, 5, 0), 1);
        due("24 above 1 of 5", x.out(0, 4, 21, 100, 0), 2);
        due("24 half", x.out(0, 4, 1, 2, 0), 2);
        due("24 all", x.out(0, 4, 1, 1, 0), 3);
        due("24 less 1", x.out(0, 4, 1, 1, 1), 2);
        due("24 less 3", x.out(0, 4, 1, 1, 3), 0);
        due("24 below 0", x.out(0, 4, 1, 1, 4), NONE);
        due("24 by a RULE", x.out(0, 0, 1, 100, 0), NONE);
        due("24 a 0", x.out(0, 4, 0, 1, 0), BAD);
        due("24 b 0", x.out(0, 4, 0, 0, 0), BAD);
        due("24 b 101", x.out(0, 4, 1, 101, 0), BAD);
        due("24 100 of 100", x.out(0, 4, 100, 100, 0), 3);
        due("24 a above b", x.out(0, 4, 3, 2, 0), BAD);
        due("24 w 10", x.out(0, 4, 1, 1, 10), BAD);
        due("24 w -1", x.out(0, 4, 1, 1, -1), BAD);
        due("24 w 9", x.out(0, 4, 1, 1, 9), NONE);
        due("24 rule 5", x.out(0, 5, 1, 1, 0), BAD);
        due("24 ROOF 2", x.out(2, 4, 1, 1, 0), BAD);
        due("24 ROOF -1", x.out(-1, 4, 1, 1, 0), BAD);
        due("24 GONE", x.out(1, 4, 1, 1, 0), NO);
        due("24 BAD ahead of GONE", x.out(1, 4, 2, 1, 0), BAD);
        x.noSkies();
        due("24 GONE ahead of NONE", x.out(1, 4, 1, 1, 0), NO);
        // Of those that stay: 20 puts 19 out, 3 of 8.
        x.on(4, 1);
        Check.skies(x, 1);
        due("24 3 of 8", x.out(0, 4, 3, 8, 0), 1);
        due("24 not 38 of 100", x.out(0, 4, 38, 100, 0), NONE);
    }

    private static int draw(int z, int i, int k) {
        java.math.BigInteger x = java.math.BigInteger.valueOf(7919L * z + 6151L * i + 3571L * k + 1);
        return x.multiply(x).mod(java.math.BigInteger.valueOf(65521)).intValue() % 10000;
    }

    private static void night() {
        RoofsOfSnow x = new RoofsOfSnow();
        due("25 z -1", x.night(-1, 0, 1, 0), BAD);
        due("25 z 10000", x.night(10000, 0, 1, 0), BAD);
        due("25 rule 5", x.night(0, 5, 1, 0), BAD);
        due("25 rule -1", x.night(0, -1, 1, 0), BAD);
        due("25 n 0", x.night(0, 0, 0, 0), BAD);
        due("25 n 25", x.night(0, 0, 25, 0), BAD);
        due("25 what 2", x.night(0, 0, 1, 2), BAD);
        due("25 what -1", x.night(0, 0, 1, -1), BAD);
        due("25 z 9999", x.night(9999, 4, 24, 0), 0);
        // What it BEARS: one HOUR that brings 20.
        x = laid("r0,0,0,99,3,8;r0,0,0,99,4,8;b0,5,0;b0,10,3;b0,30,7;b1,30,2;b1,10,8;k0,20,0,0;"
                + "c0,10,0,0;p1,2;l10;h0,1;");
        for (int z = 0; z < 40; z++) {
            int want = (draw(z, 0, 99) % 10 < 3 ? 1 : 0) + (draw(z, 1, 99) % 10 < 2 ? 0 : 2);
            due("25 z " + z, x.night(z, 4, 1, 0), want);
            due("25 lost by z " + z, x.night(z, 4, 1, 1), want % 2 * 3 + want / 2 * 24);
        }
        // Of those that stay: 5 is out from the start.
        x = laid("r6,0,0,99,3,8;b0,5,3;b0,10,3;b0,30,4;k0,20,0,0;c0,10,0,0;h0,1;");
        for (int z = 0; z < 20; z++) {
            due("25 of seven, z " + z, x.night(z, 4, 1, 0), draw(z, 0, 99) % 7 < 3 ? 1 : 0);
        }
    }

    private static void nightRuns() {
        // Which SKY comes: only SKY 2 brings it down, whatever the first one was.
        RoofsOfSnow x = laid("r0,0,0,99,3,8;b0,10,10;k2,20,0,0;c0,3,5,2;c1,3,5,2;h0,1;");
        x.on(4, 0);
        x.on(4, 0);
        for (int z = 0; z < 40; z++) {
            boolean first = draw(z, 2, 98) % 10 >= 8;
            due("25 HOUR 2 by z " + z, x.night(z, 4, 1, 0), first ? 1 : 0);
            boolean second = draw(z, 3, 98) % 10 >= 8;
            due("25 HOUR 3 by z " + z, x.night(z, 4, 2, 0), first || second ? 1 : 0);
        }
        // Behind each SKY its own tenths: 0, 1, 2, 0, ..
        x = laid("r0,0,0,99,3,8;b0,10,10;k0,11,0,0;k1,5,0,0;c0,0,10,0;c1,0,0,10;c2,10,0,0;h0,1;");
        due("25 SKY 1", x.night(1, 4, 1, 0), 0);
        due("25 SKY 2", x.night(1, 4, 2, 0), 0);
        due("25 SKY 0", x.night(1, 4, 3, 0), 1);
        // What GOES stands no more: nothing falls on it, no hand is there; it goes but once.
        x = laid("r20,0,0,99,3,1;r9,0,0,99,5,8;r0,0,0,99,7,1;b0,60,10;b1,18,10;b2,60,10;k0,1,0,0;"
                + "c0,10,0,0;h1,10;");
        due("25 first HOUR", x.night(0, 3, 1, 0), 2);
        due("25 lost", x.night(0, 3, 1, 1), 5);
        due("25 more HOURS", x.night(0, 3, 3, 0), 2);
        due("25 lost by three", x.night(0, 3, 3, 1), 5);
        due("25 nothing changes", x.now(3) * 10 + x.now(0), 70);
        // DEEP: 30 first, 10 HOURS by 10 hands.
        x = laid("r50,0,0,99,3,8;b0,41,10;k0,1,0,0;c0,10,0,0;h1,10;");
        due("25 41 bears 41", x.night(0, 0, 24, 0), 0);
        // ROOF 0 goes by 51; then the hand is at ROOF 1: 31, 32, 33.
        RoofsOfSnow y = laid("r50,0,0,99,3,8;r20,0,0,99,5,8;b0,50,10;b1,41,10;k0,11,0,0;c0,10,0,0;"
                + "h1,10;");
        due("25 no hand where it is gone", y.night(0, 0, 3, 0), 1);
        due("25 none clears", x.now(3), 0);
        x = laid("r41,0,0,99,3,8;b0,41,10;k0,10,0,0;c0,10,0,0;h1,10;o5,2;");
        due("25 41 again and again", x.night(0, 0, 24, 0), 0);
        due("25 51", x.night(0, 4, 1, 0), 1);
        x = laid("r31,0,0,99,3,8;b0,41,10;k0,5,0,0;c0,10,0,0;h0,1;o5,3;");
        x.prop(0);
        due("25 46 less 5", x.night(0, 4, 3, 0), 0);
        due("25 51 less 5", x.night(0, 4, 4, 0), 1);
    }

    private static void keepAndBack() {
        RoofsOfSnow x = laid("r10,5,0,99,3,8;r10,5,0,99,3,8;b0,24,5;b0,60,5;b1,20,10;k1,11,0,0;h0,1;s2;");
        due("27 none", x.back(), NO);
        x.tell(1, 1);
        x.prop(0);
        x.creak(0, true);
        x.sky(1);
        due("26 one", x.keep(), 1);
        due("26 creaks", x.thought(0, -1), 5);
        x.tell(0, 1);
        x.prop(0);
        due("26 both gone", x.on(4, 1), 3);
        x.sky(2);
        due("26 two", x.keep(), 2);
        due("26 full", x.keep(), FULL);
        due("26 count", x.count(4), 2);
        x.on(4, 0);
        due("27 as KEPT last", x.back(), 1);
        due("27 HOUR 1", x.now(0) * 10 + x.now(1), 11);
        due("27 gone", x.now(3), 0);
        due("27 as KEPT ahead of that", x.back(), 0);
        due("27 HOUR, SKY", x.now(0) * 10 + x.now(1), 2);
        due("27 stand", x.now(3), 3);
        due("27 snow", x.roof(0, 0) * 100 + x.roof(1, 1), 1005);
        due("27 props", x.roof(0, 4), 1);
        due("27 stood", x.roof(0, 6), 15);
        due("27 CHANCES", x.thought(0, -1), 5);
        due("27 creaks", x.count(3), 1);
        due("27 TOLD", x.tell(0, 0), 3);
        due("27 not the told row", x.count(2), 2);
        due("27 no more", x.back(), NO);
        x.keep();
        x.creak(1, true);
        x.on(4, 0);
        due("27 a creak more", x.count(3), 2);
        due("27 all creaks", x.back() + x.count(3), 1);
        due("26 again", x.keep(), 1);
        due("26 a village of its own", x.on(4, 1) + x.back(), 3);
        due("27 back again", x.roof(0, 0), 10);
        x = laid("r10,0,0,99,3,8;k1,7,0,0;h0,1;");
        x.keep();
        x.on(4, 1);
        due("27 17 stood", x.roof(0, 6), 17);
        due("27 back to 10", x.back() + x.roof(0, 6), 10);
    }

    private static void count() {
        RoofsOfSnow x = laid("r10,5,0,99,3,8;r10,5,0,99,3,8;r10,5,0,99,3,8;");
        x.sky(0);
        x.sky(1);
        x.creak(0, false);
        x.keep();
        due("28 ROOFS", x.count(0), 3);
        due("28 bytes", x.count(1), 45);
        due("28 SKIES", x.count(2), 2);
        due("28 creaks", x.count(3), 1);
        due("28 KEPT", x.count(4), 1);
        due("28 5", x.count(5), BAD);
        due("28 -1", x.count(-1), BAD);
        x.back();
        due("28 KEPT no more", x.count(4), 0);
        x.write(1, 0);
        due("28 one byte more", x.count(1), 46);
        due("28 ROOFS stay", x.count(0), 3);
    }
}

/**
 * What the document's part 1 says of a TEXT: each ITEM with its numbers at their least and most and
 * one behind these, what is so without it, which of several counts; THE TEXT empty, full, ended
 * within an ITEM; LAID or NO. Promises 1 to 5.
 */
public final class EdgesOfTextTest {
    private static final Check CHECK = new Check();
    private static final int BAD = -1, NO = -2, FULL = -3, NONE = -4;
    private static final String BARE = "r0,0,0,999,0,8;";

    private static void due(String call, long got, long want) {
        CHECK.due(call, got, want);
    }

    private static RoofsOfSnow laid(String text) {
        return Check.laid(text);
    }

    private static RoofsOfSnow written(String text) {
        RoofsOfSnow x = new RoofsOfSnow();
        Check.write(x, text);
        return x;
    }

    private static void fault(String text, int place) {
        due("4 fault of " + text, written(text).fault(), place);
    }

    /** Behind what is told ahead the one ITEM is taken, the other one is at fault. */
    private static void edges(String what, String ahead, String good, String wrong) {
        due("4 " + what + ": " + good, written(ahead + good).fault(), NONE);
        due("4 " + what + ": " + wrong, written(ahead + wrong).fault(), ahead.length());
        due("5 " + what + ": NO by " + wrong, written(ahead + wrong + BARE).lay(), NO);
    }

    public static void main(String[] args) {
        newObject();
        bytesOfWrite();
        fullText();
        wiped();
        figures();
        signs();
        places();
        snowAndUneven();
        slidesAndWorth();
        thrown();
        eightRoofs();
        bearings();
        people();
        skies();
        chains();
        firstSky();
        hands();
        gap();
        props();
        life();
        without();
        laidOrNo();
        laidAnew();
        CHECK.end();
    }

    // ---- promise 1

    /** "One ROOF without snow", "at first r0,0,0,999,0,8;": as one that was LAID by that. */
    private static void newObject() {
        RoofsOfSnow x = new RoofsOfSnow();
        due("1 THE TEXT is empty", x.count(1), 0);
        RoofsOfSnow y = laid("r0,0,0,999,0,8;");
        y.wipe();
        due("1 as r0,0,0,999,0,8;", Probe.of(x).equals(Probe.of(y)) ? 1 : 0, 1);
        x = new RoofsOfSnow();
        due("1 one ROOF", x.roof(1, 0), BAD);
        due("1 without snow", x.roof(0, 0) + x.roof(0, 1) + x.roof(0, 2) + x.roof(0, 6), 0);
        due("1 nothing KEPT", x.back(), NO);
        due("1 no row", x.noSkies(), 0);
        due("1 no creaks", x.count(3), 0);
    }

    // ---- promise 2

    /** "The lowest n bytes (1 to 8) of v, the highest of these first." */
    private static void bytesOfWrite() {
        String all = "s0;s1;s2;h1,2;g3;h4,50;l6;";
        for (int n = 1; n <= 8; n++) {
            RoofsOfSnow x = new RoofsOfSnow();
            for (int place = 0; place < all.length();) {
                int many = Math.min(n, all.length() - place);
                // What lies above the lowest bytes is not taken.
                long v = -1L;
                for (int j = 0; j < many; j++) {
                    v = v << 8 | all.charAt(place + j);
                }
                place += many;
                due("2 how long by " + n, x.write(many, v), place);
            }
            due("2 by " + n + ": as told", x.fault(), NONE);
        }
        // Bytes of 128 and more are no letters, figures or signs, whatever their lower bits.
        for (int place = 0; place < 3; place++) {
            byte[] item = {'s', '1', ';'};
            item[place] |= (byte) 128;
            RoofsOfSnow x = new RoofsOfSnow();
            x.write(3, (item[0] & 255) << 16 | (item[1] & 255) << 8 | item[2] & 255);
            due("2 byte " + place + " of 128 and more", x.fault(), 0);
        }
        RoofsOfSnow x = new RoofsOfSnow();
        due("2 v below 0", x.write(8, Long.MIN_VALUE), 8);
        due("2 its highest byte is 128", x.fault(), 0);
        x.wipe();
        x.write(1, 0x80L);
        due("2 one byte 128", x.count(1) * 10 + x.fault(), 10);
    }

    /** "bytes (500 at most)": 500 are taken, one more is not; FULL changes nothing. */
    private static void fullText() {
        for (int n = 1; n <= 8; n++) {
            RoofsOfSnow x = new RoofsOfSnow();
            for (int j = 0; j < 62; j++) {
                x.write(8, 0x73303B73303B6735L);
            }
            due("2 496", x.count(1), 496);
            due("2 " + n + " more", x.write(n, 0x73), n <= 4 ? 496 + n : FULL);
            due("2 then", x.count(1), n <= 4 ? 496 + n : 496);
            while (x.count(1) < 500) {
                x.write(1, ';');
            }
            due("2 500 and " + n, x.write(n, 0x73), FULL);
            due("2 500 stay", x.count(1), 500);
        }
        // 13 and 160 by 3 and 7 bytes: the last ITEM counts.
        RoofsOfSnow x = written("r0,0,0,1,0,8;" + "s0;".repeat(160) + "h07,10;");
        due("2 five hundred", x.count(1), 500);
        due("4 of 500", x.fault(), NONE);
        due("5 of 500", x.lay(), 1);
        due("5 the last ITEM of 500", x.now(2), 7);
        // The last ITEM lacks what ends it, and can't be ended.
        x = written("r0,0,0,1,0,8;" + "s0;".repeat(160) + "h007,10");
        due("4 not ended in 500", x.fault(), 493);
        due("2 not to be ended", x.write(1, ';'), FULL);
        due("5 not ended in 500", x.lay(), NO);
        // 166 ITEMS of three bytes, then two bytes.
        x = written("s1;".repeat(166) + "s1");
        due("4 the 167th", x.fault(), 498);
    }

    // ---- promise 3

    private static void wiped() {
        RoofsOfSnow x = new RoofsOfSnow();
        due("3 of none", x.wipe(), 0);
        due("3 of none again", x.wipe(), 0);
        Check.write(x, "s1;".repeat(166) + "xx");
        due("3 of 500", x.wipe(), 500);
        due("3 empty", x.count(1) * 10 + x.fault(), NONE);
        for (int j = 1; j <= 62; j++) {
            x.write(8, 0x73303B73303B7330L);
        }
        due("3 500 anew", x.write(4, 0), 500);
        due("3 FULL anew", x.write(1, 0), FULL);
        due("3 of 500 anew", x.wipe(), 500);
        // A shorter text stands alone, not with what lay behind it.
        x.write(2, 's' << 8 | '1');
        due("3 nothing behind", x.fault(), 0);
        due("3 two", x.wipe(), 2);
    }

    // ---- promise 4: signs

    /** "numbers (one to three figures)", for each number of each ITEM. */
    private static void figures() {
        String ahead = "r0,0,0,1,0,8;r0,0,0,1,0,8;";
        String[] items = {"r1,2,3,4,5,1", "b1,2,3", "p1,2", "k1,2,3,4", "c1,2,3,5", "s1", "h1,2", "g1",
            "o1,2", "l1"};
        for (String item : items) {
            String[] numbers = item.substring(1).split(",");
            fault(ahead + item + ";", NONE);
            fault(ahead + item, ahead.length());
            fault(ahead + item + ",", ahead.length());
            fault(ahead + item + ",1;", ahead.length());
            for (int j = 0; j < numbers.length; j++) {
                for (String zeros : new String[] {"0", "00"}) {
                    fault(ahead + changed(item, j, zeros + numbers[j]) + ";", NONE);
                }
                for (String wrong : new String[] {"000" + numbers[j], "", " " + numbers[j],
                    numbers[j] + " ", "-" + numbers[j], "+" + numbers[j], numbers[j] + ".", "x",
                    "1000", numbers[j] + ";", numbers[j] + ",", "/", ":"}) {
                    fault(ahead + changed(item, j, wrong) + ";", wrongAt(ahead, item, j, wrong));
                }
            }
            if (numbers.length > 1) {
                String fewer = item.substring(0, item.lastIndexOf(','));
                fault(ahead + fewer + ";", ahead.length());
            }
        }
    }

    private static String changed(String item, int place, String number) {
        String[] numbers = item.substring(1).split(",");
        numbers[place] = number;
        return item.charAt(0) + String.join(",", numbers);
    }

    /** A ';' too many behind the last number ends the ITEM: the next one is at fault. */
    private static int wrongAt(String ahead, String item, int j, String wrong) {
        boolean last = j == item.split(",").length - 1;
        return ahead.length() + (last && wrong.endsWith(";") ? item.length() + 1 : 0);
    }

    /** "a letter": one that is told, and no other byte. */
    private static void signs() {
        String letters = "rbpkcshgol";
        for (int sign = 0; sign < 256; sign++) {
            RoofsOfSnow x = written("s1;");
            x.write(1, sign);
            Check.write(x, "1;");
            boolean good = sign == 's' || sign == 'g' || sign == 'l';
            due("4 letter " + sign, x.fault(), good ? NONE : 3);
            if (letters.indexOf(sign) < 0) {
                x = written("s1;s1;");
                x.write(1, sign);
                due("4 alone " + sign, x.fault(), 6);
            }
        }
    }

    /** "the place (from 0 on) of the first byte of the first ITEM that is not so". */
    private static void places() {
        fault("", NONE);
        fault("x", 0);
        fault("s3;s3;", 0);
        fault("s1;s3;s4;", 3);
        fault("h1,10;g5;l3;s3;x", 12);
        fault("r1,1,1,1,1,8;b0,1,11;b1,1,1;", 13);
        fault("s1;s1;;s1;", 6);
        fault(";s1;", 0);
        fault("s1,s1;", 0);
        RoofsOfSnow x = written("s1;s");
        due("4 not ended", x.fault(), 3);
        x.write(1, '1');
        due("4 not ended yet", x.fault(), 3);
        x.write(1, ';');
        due("4 ended", x.fault(), NONE);
        due("4 nothing LAID by that", x.now(1), 0);
    }

    // ---- promises 4 and 5: r

    /** "snow L, R (0 to 200 each), UNEVEN U (0 to 20 tenths)". */
    private static void snowAndUneven() {
        edges("L", "", "r200,0,0,1,0,8;", "r201,0,0,1,0,8;");
        edges("R", "", "r0,200,0,1,0,8;", "r0,201,0,1,0,8;");
        edges("U", "", "r0,0,20,1,0,8;", "r0,0,21,1,0,8;");
        RoofsOfSnow x = laid("r0,0,0,1,0,8;");
        due("6 none", x.roof(0, 0) + x.roof(0, 1) + x.roof(0, 2), 0);
        x = laid("r200,0,20,1,0,8;b0,600,10;");
        due("6 200 on SIDE 0", x.roof(0, 0), 200);
        due("6 200 and 20 tenths of 200", x.roof(0, 2), 600);
        x = laid("r0,200,20,1,0,8;b0,600,10;");
        due("6 200 on SIDE 1", x.roof(0, 1), 200);
        due("6 200 and 20 tenths of 200, SIDE 1", x.roof(0, 2), 600);
        x = laid("r200,200,20,1,0,8;");
        due("6 not apart", x.roof(0, 2), 400);
        x = laid("r200,0,0,1,0,8;");
        due("6 apart, not UNEVEN", x.roof(0, 2), 200);
    }

    /** "SLIDES V (1 to 999)", "WORTH W (0 to 999)". */
    private static void slidesAndWorth() {
        edges("V", "", "r0,0,0,1,0,8;", "r0,0,0,0,0,8;");
        edges("V", "", "r0,0,0,999,0,8;", "r0,0,0,1000,0,8;");
        edges("W", "", "r0,0,0,1,999,8;", "r0,0,0,1,1000,8;");
        RoofsOfSnow x = laid("r2,1,0,1,0,8;h0,1;");
        x.on(4, 0);
        due("12 V 1: 2 down to 1", x.roof(0, 0), 1);
        due("12 V 1: 1 stays", x.roof(0, 1), 1);
        // 200, then 60 and 9 tenths more: 440, 896, and 1762 slides down to 999.
        x = laid("r200,0,0,999,0,8;b0,999,10;k1,60,0,9;h0,1;");
        due("12 440", x.on(4, 1) + x.roof(0, 0), 440);
        due("12 896", x.on(4, 1) + x.roof(0, 0), 896);
        due("12 V 999", x.on(4, 1) + x.roof(0, 0), 999);
        due("12 999 bears 999", x.roof(0, 5), 1);
        x = laid("r0,0,0,999,0,8;b0,9,10;k0,10,0,0;h0,1;");
        x.sky(0);
        due("15 W 0", x.loss(4), 0);
        x = laid("r0,0,0,999,999,8;b0,9,10;k0,10,0,0;h0,1;");
        x.sky(0);
        due("15 W 999", x.loss(4), 999000000);
    }

    /** "the ROOF on whose SIDE 0 what is cleared falls (0 to 7; 8: to the ground)". */
    private static void thrown() {
        edges("T", "", "r0,0,0,1,0,8;", "r0,0,0,1,0,9;");
        edges("T", "", "r0,0,0,1,0,0;", "r0,0,0,1,0,10;");
        // T of a ROOF that is told later, and of one that was told ahead.
        RoofsOfSnow x = laid("r9,0,0,99,0,1;r0,0,0,99,0,8;");
        x.on(0, 0);
        due("12 T 1", x.roof(1, 0), 9);
        x = laid("r0,0,0,99,0,8;r0,9,0,99,0,0;");
        x.on(0, 0);
        due("12 T 0, from SIDE 1 on SIDE 0", x.roof(0, 0), 9);
        due("12 none on SIDE 1", x.roof(0, 1) + x.roof(1, 1), 0);
        x = laid("r9,0,0,99,0,8;" + "r0,0,0,99,0,8;".repeat(7));
        x.on(0, 0);
        for (int i = 0; i < 8; i++) {
            due("12 T 8: on no ROOF, not on " + i, x.roof(i, 0) + x.roof(i, 1), 0);
        }
    }

    /** "8 at most, 0, 1, ..". */
    private static void eightRoofs() {
        StringBuilder text = new StringBuilder();
        for (int i = 0; i < 8; i++) {
            text.append("r").append(i).append(',').append(2 * i).append(",0,99,0,")
                    .append(i == 7 ? 0 : i + 1).append(';');
            RoofsOfSnow x = written(text.toString());
            due("5 ROOFS, the last thrown on a next that is not told", x.lay(), i == 7 ? 8 : NO);
        }
        RoofsOfSnow x = laid(text.toString());
        due("28 eight", x.count(0), 8);
        due("8 eight stand", x.now(3), 255);
        for (int i = 0; i < 8; i++) {
            due("6 SIDE 0 of " + i, x.roof(i, 0), i);
            due("6 SIDE 1 of " + i, x.roof(i, 1), 2 * i);
        }
        due("6 no ROOF 8", x.roof(8, 0), BAD);
        fault(text + "r0,0,0,99,0,8;", text.length());
        fault(text + "s1;r0,0,0,99,0,8;", text.length() + 3);
        // 14 on SIDE 1 of ROOF 7 is the most: 10 of it on SIDE 0 of ROOF 0.
        x.on(0, 0);
        due("12 the last SIDE of all is cleared", x.roof(7, 1) * 100 + x.roof(0, 0), 410);
    }

    // ---- b

    /** "ROOF I (told ahead) bears B (1 to 999) by C tenths (0 to 10); 4 of each at most". */
    private static void bearings() {
        String one = "r9,0,0,99,0,8;";
        edges("I", one, "b0,9,10;", "b1,9,10;");
        edges("I", one.repeat(7), "b6,9,10;", "b7,9,10;");
        edges("I", one.repeat(8), "b7,9,10;", "b8,9,10;");
        edges("B", one, "b0,1,10;", "b0,0,10;");
        edges("B", one, "b0,999,10;", "b0,1000,10;");
        edges("C", one, "b0,9,0;", "b0,9,11;");
        edges("C", one, "b0,9,10;", "b0,9,100;");
        edges("4 of each", one + "b0,9,1;b0,9,1;b0,9,1;b0,9,1;", "s0;", "b0,9,6;");
        due("7 B 1 bears 1", laid("r1,0,0,99,0,8;b0,1,10;").thought(0, 0), 10);
        due("7 B 1 bears no 2", laid("r2,0,0,99,0,8;b0,1,10;").thought(0, 0), NO);
        // 600 as it is: with twice 199 more 998, with twice 200 more 1000.
        due("7 B 999", laid("r200,0,20,99,0,8;b0,999,10;").goes(0, 199, 0), 0);
        due("7 B 999, 1000", laid("r200,0,20,99,0,8;b0,999,10;").goes(0, 200, 0), 1);
        fourOfEach();
    }

    private static void fourOfEach() {
        String two = "r0,0,0,99,0,8;r0,0,0,99,0,8;";
        String four = "b0,5,1;b0,5,2;b0,5,3;b0,5,4;b1,9,4;b1,9,3;b1,9,2;b1,9,1;";
        RoofsOfSnow x = laid(two + four);
        for (int k = 0; k < 4; k++) {
            due("7 as told, " + k, x.thought(0, k) * 10 + x.thought(1, k), (k + 1) * 10 + 4 - k);
        }
        fault(two + four + "b0,5,0;", two.length() + four.length());
        fault(two + four + "b1,5,0;", two.length() + four.length());
        // The fifth of ROOF 0 ahead of the fifth of ROOF 1.
        fault(two + four + "s1;b1,5,0;b0,5,0;", two.length() + four.length() + 3);
        // "together 10 for each ROOF, else NO".
        due("5 none of 10", written(two + "b0,5,9;b0,5,0;").lay(), NO);
        due("5 9", written(two + "b0,5,9;b1,5,10;").lay(), NO);
        due("5 11", written(two + "b0,5,10;b0,5,1;").lay(), NO);
        due("5 40", written(two + "b0,5,10;".repeat(4)).lay(), NO);
        due("5 10 of the first alone", written(two + "b0,5,10;b1,5,9;").lay(), NO);
        due("5 10 and 10", written(two + "b1,5,5;b0,5,10;b1,5,5;").lay(), 2);
        due("4 that is no FAULT", written(two + "b0,5,9;").fault(), NONE);
        // "500 by 10 without any".
        x = laid(two + "b1,9,10;");
        due("7 500 by 10", x.thought(0, 0) * 10 + x.thought(0, 1), 100);
        due("10 500 bears 400", x.goes(0, 200, 0), 0);
        x = laid("r200,200,0,999,0,8;k0,50,50,0;k1,1,0,0;h0,1;");
        due("12 500 bears 500", x.on(4, 0), 0);
        due("12 500 bears no 501", x.on(4, 1), 1);
    }

    // ---- p, k, c, s

    /** "N people sleep under ROOF I (told ahead) (0 to 99; 0 without; of several the last)". */
    private static void people() {
        String one = "r9,0,0,99,0,8;";
        edges("p I", one, "p0,1;", "p1,1;");
        edges("p I", one.repeat(7), "p6,1;", "p7,1;");
        edges("p I", one.repeat(8), "p7,99;", "p8,0;");
        edges("p N", one, "p0,99;", "p0,100;");
        edges("p N", one, "p0,0;", "p0,999;");
        RoofsOfSnow x = laid(one.repeat(8) + "p7,99;p1,1;p1,0;p2,0;p2,7;p3,5;p3,5;");
        int[] sleep = {0, 0, 7, 5, 0, 0, 0, 99};
        for (int i = 0; i < 8; i++) {
            due("6 people under " + i, x.roof(i, 7), sleep[i]);
        }
        due("4 p ahead of its ROOF", written("p0,1;" + one).fault(), 0);
    }

    /** "SKY K (0 to 2) brings S (0 to 60), D (0 to 60), M tenths (0 to 9), cut". */
    private static void skies() {
        edges("K", "", "k2,0,0,0;", "k3,0,0,0;");
        edges("S", "", "k0,60,0,0;", "k0,61,0,0;");
        edges("D", "", "k0,0,60,0;", "k0,0,61,0;");
        edges("M", "", "k0,0,0,9;", "k0,0,0,10;");
        RoofsOfSnow x = laid("r10,20,0,999,0,8;h0,1;k0,60,0,0;k1,0,60,0;k2,0,0,9;");
        x.on(4, 0);
        due("12 60 on SIDE 0", x.roof(0, 0) * 1000 + x.roof(0, 1), 70020);
        x.on(4, 1);
        due("12 60 on SIDE 1", x.roof(0, 0) * 1000 + x.roof(0, 1), 70080);
        x.on(4, 2);
        due("12 9 tenths more", x.roof(0, 0) * 1000 + x.roof(0, 1), 133152);
        // Of 9, 10, 19 one tenth, cut.
        for (int lies : new int[] {0, 1, 9, 10, 11, 19, 20, 199, 200}) {
            x = laid("r" + lies + "," + lies + ",0,999,0,8;b0,999,10;h0,1;k0,0,0,1;k1,0,0,9;");
            x.keep();
            x.on(4, 0);
            due("12 a tenth of " + lies, x.roof(0, 0) - lies, lies / 10);
            x.back();
            x.on(4, 1);
            due("12 9 tenths of " + lies, x.roof(0, 1) - lies, lies * 9 / 10);
        }
        for (int k = 0; k < 3; k++) {
            x = laid("r10,10,0,999,0,8;h0,1;k" + k + ",5,6,7;k" + k + ",1,2,0;");
            for (int sky = 0; sky < 3; sky++) {
                x.on(4, sky);
            }
            // 0, 0, 0 without; of several the last one counts.
            due("12 SKY " + k + " alone", x.roof(0, 0) * 100 + x.roof(0, 1), 1112);
        }
    }

    /** By OVER of one HOUR, if one SKY alone brings it down: by how many tenths that SKY comes. */
    private static void comes(String what, String chain, int ahead, int... tenths) {
        for (int sky = 0; sky < 3; sky++) {
            RoofsOfSnow x = laid("r0,0,0,999,1,8;b0,8,10;h0,1;k" + sky + ",9,0,0;" + chain + "s" + ahead + ";");
            due("16 " + what + ": " + sky + " behind " + ahead, x.over(4, 1), tenths[sky] * 100000L);
        }
    }

    /** "behind SKY K comes 0, 1, 2 by A, B, C tenths (together 10; 4, 3, 3 without)". */
    private static void chains() {
        edges("c K", "", "c2,10,0,0;", "c3,10,0,0;");
        edges("c A", "", "c0,10,0,0;", "c0,11,0,0;");
        edges("c B", "", "c0,0,10,0;", "c0,0,11,0;");
        edges("c C", "", "c0,0,0,10;", "c0,0,0,11;");
        edges("c together", "", "c0,3,3,4;", "c0,3,3,3;");
        edges("c together", "", "c0,1,0,9;", "c0,1,1,9;");
        edges("c together", "", "c0,5,5,0;", "c0,0,0,0;");
        edges("c together", "", "c0,9,1,0;", "c0,10,10,0;");
        for (int k = 0; k < 3; k++) {
            comes("4, 3, 3 without", "", k, 4, 3, 3);
            comes("all by one", "c" + k + ",0,0,10;", k, 0, 0, 10);
            comes("the last one counts", "c" + k + ",0,0,10;c" + k + ",5,4,1;", k, 5, 4, 1);
            comes("behind others", "c" + (k + 1) % 3 + ",0,0,10;c" + (k + 2) % 3 + ",0,10,0;", k, 4, 3, 3);
        }
    }

    /** "the SKY is K as HOUR 0 begins (0 without)". */
    private static void firstSky() {
        edges("s", "", "s2;", "s3;");
        edges("s", "", "s0;", "s10;");
        due("8 0 without", laid(BARE).now(1), 0);
        due("8 1", laid(BARE + "s1;").now(1), 1);
        due("8 2", laid("s0;s2;" + BARE).now(1), 2);
        due("8 the last one", laid("s2;s1;" + BARE + "s0;").now(1), 0);
    }

    // ---- h, g, o, l

    /** "H hands (0 to 9), each clears D (1 to 50) an HOUR (1, 10 without)". */
    private static void hands() {
        edges("H", "", "h9,1;", "h10,1;");
        edges("H", "", "h0,1;", "h99,1;");
        edges("D", "", "h1,50;", "h1,51;");
        edges("D", "", "h1,1;", "h1,0;");
        int[][] cases = {{0, 50, 0}, {1, 1, 1}, {9, 1, 9}, {1, 50, 50}, {3, 50, 150}, {4, 50, 200},
            {9, 50, 200}, {9, 22, 198}, {9, 23, 200}};
        for (int[] c : cases) {
            RoofsOfSnow x = laid("r200,0,0,999,0,8;h" + c[0] + "," + c[1] + ";");
            due("8 hands", x.now(2), c[0]);
            x.on(3, 0);
            due("12 " + c[0] + " hands by " + c[1], x.roof(0, 0), 200 - c[2]);
        }
        RoofsOfSnow x = laid("r200,0,0,999,0,8;");
        x.on(0, 0);
        due("12 1, 10 without", x.now(2) * 1000 + x.roof(0, 0), 1190);
        x = laid("r200,0,0,999,0,8;h9,50;h2,3;");
        x.on(0, 0);
        due("12 the last h", x.now(2) * 1000 + x.roof(0, 0), 2194);
    }

    /** "a PRESS above what it bears less G (0 to 99; 10 without)": heard are B below PRESS and G. */
    private static void gap() {
        edges("G", "", "g99;", "g100;");
        edges("G", "", "g0;", "g999;");
        int[][] gaps = {{0, 10}, {1, 11}, {99, 109}, {-1, 20}};
        for (int[] g : gaps) {
            String text = "r10,0,0,99,0,8;b0," + Math.max(10, g[1] - 1) + ",3;b0," + g[1] + ",7;";
            text += g[0] < 0 ? "" : "g5;g" + g[0] + ";";
            // By G 0 both are no less than 10.
            due("9 heard by " + g[0], laid(text).creak(0, true), g[0] == 0 ? NO : 3);
            due("9 not heard by " + g[0], laid(text).creak(0, false), g[0] == 0 ? 10 : 7);
        }
    }

    /** "a prop adds P (0 to 200) N HOURS (1 to 20) later (50, 3 without)". */
    private static void props() {
        edges("P", "", "o200,1;", "o201,1;");
        edges("P", "", "o0,1;", "o999,1;");
        edges("N", "", "o0,20;", "o0,21;");
        edges("N", "", "o0,1;", "o0,0;");
        int[][] cases = {{0, 1}, {200, 1}, {200, 20}, {7, 2}, {50, 3}};
        for (int[] c : cases) {
            RoofsOfSnow x = laid(BARE + (c[1] == 3 ? "" : "o9,9;o" + c[0] + "," + c[1] + ";"));
            for (int n = 1; n <= 3; n++) {
                x.prop(0);
            }
            for (int hour = 1; hour <= 21; hour++) {
                x.on(0, 0);
                due("6 props of " + c[0] + " in " + c[1] + ", HOUR " + hour, x.roof(0, 3),
                        hour < c[1] ? 0 : 3 * c[0]);
            }
        }
    }

    /** "a life is worth E (0 to 999; 100 without)". */
    private static void life() {
        edges("E", "", "l999;", "l1000;");
        edges("E", "", "l0;", "l0000;");
        String one = "r0,0,0,99,3,8;b0,9,10;k0,10,0,0;h0,1;p0,99;";
        String[] told = {"", "l0;", "l999;", "l999;l1;"};
        long[] lost = {9903, 3, 98904, 102};
        for (int j = 0; j < told.length; j++) {
            RoofsOfSnow x = laid(one + told[j] + "c0,10,0,0;");
            x.sky(0);
            due("15 a life by " + told[j], x.loss(4), lost[j] * 1000000);
            due("25 a life by " + told[j], x.night(0, 4, 1, 1), lost[j]);
        }
    }

    // ---- promise 5

    /** What is so without an ITEM is so again in a village that does not tell it. */
    private static void without() {
        RoofsOfSnow x = laid("r9,9,9,9,9,1;r9,9,9,9,9,8;b0,99,3;b0,98,7;b1,99,9;b1,98,1;p0,9;p1,9;"
                + "k0,9,9,9;k1,9,9,9;k2,9,9,9;c0,10,0,0;c1,10,0,0;c2,10,0,0;s2;h9,9;g9;o9,9;l9;");
        x.tell(1, 1);
        x.creak(0, false);
        x.prop(0);
        x.sky(1);
        x.keep();
        x.on(0, 1);
        x.keep();
        String text = "r30,20,5,999,7,8;r10,20,5,999,7,0;b1,60,10;";
        x.wipe();
        Check.write(x, text);
        due("5 two", x.lay(), 2);
        due("5 as a new one", Probe.of(x).equals(Probe.of(laid(text))) ? 1 : 0, 1);
    }

    /** "of one ROOF at least, whose T are such as there are, or 8, not itself". */
    private static void laidOrNo() {
        due("5 no ROOF", written("").lay(), NO);
        due("5 no ROOF, all else", written("k0,9,9,9;c0,10,0,0;s2;h9,9;g9;o9,9;l9;").lay(), NO);
        for (int roofs = 1; roofs <= 8; roofs++) {
            for (int onto = 0; onto <= 8; onto++) {
                for (int i = 0; i < roofs; i += Math.max(1, roofs - 1)) {
                    String text = "r1,2,3,4,5,8;".repeat(i) + "r1,2,3,4,5," + onto + ";"
                            + "r1,2,3,4,5,8;".repeat(roofs - 1 - i);
                    boolean good = onto == 8 || onto < roofs && onto != i;
                    due("5 " + roofs + " ROOFS, " + i + " on to " + onto, written(text).lay(),
                            good ? roofs : NO);
                    due("4 that is no FAULT", written(text).fault(), NONE);
                }
            }
        }
    }

    /** LAID twice by one TEXT; a NO leaves the village that was; THE TEXT stays. */
    private static void laidAnew() {
        String text = "r30,0,0,99,7,8;b0,30,4;b0,60,6;k1,9,0,0;h0,1;s1;";
        RoofsOfSnow x = laid(text);
        x.tell(0, 1);
        x.prop(0);
        x.creak(0, false);
        x.on(4, 1);
        x.sky(2);
        x.keep();
        due("5 again", x.lay(), 1);
        due("5 as LAID once", Probe.of(x).equals(Probe.of(laid(text))) ? 1 : 0, 1);
        x = laid(text);
        x.on(4, 1);
        x.write(1, 'x');
        due("5 NO", x.lay(), NO);
        due("5 the village goes on", x.now(0) * 100 + x.roof(0, 0), 139);
        due("5 THE TEXT stays", x.count(1), text.length() + 1);
        // FELT when LAID: PRESS 30 puts out 29, bears 30; above all B it is GONE at once.
        due("5 30 bears 30", laid("r30,0,0,99,7,8;b0,29,4;b0,30,6;").thought(0, -1), 6);
        x = laid("r30,0,0,99,7,8;b0,29,10;");
        due("5 GONE at once", x.now(3) + x.roof(0, 0) + x.roof(0, 5), 0);
        due("5 also the only one", x.count(0), 1);
        x = laid("r60,0,0,99,7,8;");
        x.wipe();
        Check.write(x, "r70,0,0,99,7,8;b0,69,10;");
        due("5 GONE at once, behind one that stood", x.lay() * 10 + x.now(3), 10);
        due("6 it has stood nothing", x.roof(0, 6), 0);
        x = laid("r30,0,0,99,7,8;b0,29,10;b0,99,0;");
        due("5 GONE: CHANCES would be 0", x.now(3), 0);
    }
}

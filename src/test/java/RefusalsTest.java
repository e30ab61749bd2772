/**
 * The document's last paragraph: BAD, NO, NONE, FULL, which comes first where several hold, and
 * that nothing changes then; and that a call which only answers changes nothing either. Beside
 * each object stands one that was led alike without that call.
 */
public final class RefusalsTest {
    private static final Check CHECK = new Check();
    private static final int BAD = -1, NO = -2, FULL = -3, NONE = -4;
    private static final int[] FAR = {Integer.MIN_VALUE, -65536, -2, -1};
    private static final int LEAST = Integer.MIN_VALUE, MOST = Integer.MAX_VALUE;

    /** What leads a new object to where it is to be refused. */
    private interface Lead {
        RoofsOfSnow made();
    }

    private interface Call {
        long on(RoofsOfSnow x);
    }

    public static void main(String[] args) {
        write();
        lay();
        roofsThatAreNot();
        numbersOfOneRoof();
        villages();
        rules();
        rows();
        outAndNight();
        hoursTooFew();
        gone();
        fullOfCreaks();
        fullOfProps();
        fullOfSkies();
        keepAndBack();
        severalAtOnce();
        onlyAnswers();
        CHECK.end();
    }

    // ---- the villages

    /** ROOF 0 stands, ROOF 1 was GONE from the start, ROOF 2 stands with one prop and a creak. */
    private static final String THREE = "r20,5,5,60,7,2;r30,30,0,99,9,8;r8,12,3,40,11,0;"
            + "b0,35,3;b0,45,3;b0,70,4;b1,50,10;b2,60,2;b2,90,8;p0,2;p2,1;"
            + "k0,1,0,0;k1,9,4,1;k2,3,3,5;c0,2,5,3;c1,1,1,8;s1;h2,6;g6;o12,2;l50;";

    private static RoofsOfSnow three() {
        RoofsOfSnow x = Check.laid(THREE);
        x.prop(2);
        x.creak(0, false);
        x.tell(2, 1);
        return x;
    }

    /** The same with a told row of two SKIES, and one KEPT an HOUR ago. */
    private static RoofsOfSnow later() {
        RoofsOfSnow x = three();
        x.keep();
        x.on(0, 2);
        x.sky(1);
        x.sky(2);
        return x;
    }

    private static RoofsOfSnow fullText() {
        RoofsOfSnow x = Check.laid(THREE);
        Check.write(x, "s2;".repeat((500 - x.count(1)) / 3));
        for (int left = 500 - x.count(1); left > 0; left--) {
            x.write(1, 'x');
        }
        return x;
    }

    private static RoofsOfSnow fullSkies() {
        RoofsOfSnow x = three();
        for (int t = 0; t < 12; t++) {
            x.sky(t % 3);
        }
        return x;
    }

    private static RoofsOfSnow fullKept() {
        RoofsOfSnow x = three();
        x.keep();
        x.on(4, 1);
        x.keep();
        x.on(4, 0);
        return x;
    }

    private static RoofsOfSnow fullCreaks() {
        RoofsOfSnow x = Check.laid(THREE);
        for (int n = 0; n < 20; n++) {
            x.creak(n % 2 * 2, false);
        }
        x.sky(1);
        return x;
    }

    /** ROOF 0 stands with three props, ROOF 2 was brought down under three by SKY 1. */
    private static RoofsOfSnow fullProps() {
        RoofsOfSnow x = Check.laid("r9,0,0,99,7,8;r9,0,0,99,7,8;r9,0,0,99,7,8;b0,99,10;b1,99,10;"
                + "b2,12,10;k1,4,0,0;h0,1;o1,20;");
        for (int n = 0; n < 3; n++) {
            x.prop(0);
            x.prop(2);
        }
        x.on(4, 1);
        x.sky(1);
        return x;
    }

    // ---- how a refusal is looked at

    private static void refused(String what, long code, Lead lead, Call call) {
        RoofsOfSnow x = lead.made();
        CHECK.due(what, call.on(x), code);
        same(what + ": nothing changes", x, lead.made());
    }

    private static void answers(String what, Lead lead, Call call) {
        RoofsOfSnow x = lead.made();
        long first = call.on(x);
        CHECK.due(what + ": not refused", first >= 0 ? 1 : 0, 1);
        CHECK.due(what + ": again", call.on(x), first);
        same(what + ": nothing changes", x, lead.made());
    }

    private static void same(String what, RoofsOfSnow x, RoofsOfSnow beside) {
        CHECK.due(what, Probe.of(x).equals(Probe.of(beside)) ? 1 : 0, 1);
    }

    // ---- BAD alone

    private static void write() {
        for (int n : new int[] {LEAST, -8, -1, 0, 9, 10, 64, MOST}) {
            refused("2 write of " + n, BAD, RefusalsTest::later, x -> x.write(n, 0x73303B73303B7330L));
            refused("2 write of " + n + " on a full one", BAD, RefusalsTest::fullText,
                    x -> x.write(n, 0));
        }
        for (int n = 1; n <= 8; n++) {
            int many = n;
            refused("2 full, " + n, FULL, RefusalsTest::fullText, x -> x.write(many, -1L));
        }
    }

    private static void lay() {
        for (String text : new String[] {"", "x", "s1;", "r0,0,0,1,0,8", "r0,0,0,0,0,8;",
            "r9,9,0,1,0,0;", "r9,9,0,1,0,1;", "r9,9,0,1,0,7;", "r9,9,0,1,0,8;b0,9,9;",
            "r9,9,0,1,0,8;b0,9,6;b0,9,5;", "r9,9,0,1,0,8;b0,9,0;", "r9,9,0,1,0,8;b1,9,10;",
            "h9,50;g9;o9,9;l9;s2;k1,9,9,9;r9,9,0,1,0,8;c0,9,9,9;"}) {
            refused("5 lay of " + text, NO, () -> told(text), RoofsOfSnow::lay);
        }
    }

    private static RoofsOfSnow told(String text) {
        RoofsOfSnow x = later();
        x.wipe();
        Check.write(x, text);
        return x;
    }

    private static void badRoof(String what, int i, Call call) {
        refused(what + " of ROOF " + i, BAD, RefusalsTest::later, call);
    }

    /** "ROOFS: such as there are": of three neither 3 nor -1, nor one far off. */
    private static void roofsThatAreNot() {
        for (int i : new int[] {LEAST, -256, -1, 3, 7, 8, 256, 1 << 30, MOST}) {
            badRoof("6 roof", i, x -> x.roof(i, 0));
            badRoof("7 thought", i, x -> x.thought(i, -1));
            badRoof("9 creak", i, x -> x.creak(i, false));
            badRoof("10 goes", i, x -> x.goes(i, 0, 0));
            badRoof("11 tell", i, x -> x.tell(i, 0));
            badRoof("18 first", i, x -> x.first(i));
            badRoof("20 prop", i, x -> x.prop(i));
            badRoof("21 instead", i, x -> x.instead(0, i));
            badRoof("22 look", i, x -> x.look(i));
            badRoof("24 out", i, x -> x.out(i, 4, 1, 100, 0));
        }
    }

    private static void numbersOfOneRoof() {
        for (int n : new int[] {LEAST, -1, 8, 9, MOST}) {
            refused("6 what " + n, BAD, RefusalsTest::later, x -> x.roof(0, n));
            refused("6 what " + n + " of a GONE one", BAD, RefusalsTest::later, x -> x.roof(1, n));
        }
        for (int n : new int[] {LEAST, -2, 4, 5, MOST}) {
            refused("7 k " + n, BAD, RefusalsTest::later, x -> x.thought(0, n));
        }
        for (int n : new int[] {LEAST, -1, 201, 202, MOST}) {
            refused("10 x " + n, BAD, RefusalsTest::later, x -> x.goes(0, n, 0));
        }
        for (int n : new int[] {LEAST, -1, 2, MOST}) {
            refused("10 part " + n, BAD, RefusalsTest::later, x -> x.goes(0, 0, n));
            refused("11 side " + n, BAD, RefusalsTest::later, x -> x.tell(0, n));
        }
    }

    private static void villages() {
        for (int n : new int[] {LEAST, -1, 4, 5, MOST}) {
            refused("8 now " + n, BAD, RefusalsTest::later, x -> x.now(n));
        }
        for (int n : new int[] {LEAST, -1, 5, 6, MOST}) {
            refused("28 count " + n, BAD, RefusalsTest::later, x -> x.count(n));
        }
        for (int n : new int[] {LEAST, -1, 3, 4, MOST}) {
            refused("12 on by SKY " + n, BAD, RefusalsTest::later, x -> x.on(0, n));
            refused("13 sky " + n, BAD, RefusalsTest::later, x -> x.sky(n));
        }
    }

    private static void rules() {
        for (int n : new int[] {LEAST, -1, 5, 6, MOST}) {
            refused("12 on by RULE " + n, BAD, RefusalsTest::later, x -> x.on(n, 0));
            refused("15 loss by RULE " + n, BAD, RefusalsTest::later, x -> x.loss(n));
            refused("15 by an empty row and RULE " + n, BAD, RefusalsTest::three, x -> x.loss(n));
            refused("16 over by RULE " + n, BAD, RefusalsTest::later, x -> x.over(n, 1));
            refused("19 more by RULE " + n, BAD, RefusalsTest::later, x -> x.more(n, 0));
            refused("21 instead by RULE " + n, BAD, RefusalsTest::later, x -> x.instead(n, 0));
            refused("24 out by RULE " + n, BAD, RefusalsTest::later, x -> x.out(0, n, 1, 1, 0));
            refused("25 night by RULE " + n, BAD, RefusalsTest::later, x -> x.night(0, n, 1, 0));
        }
    }

    private static void rows() {
        for (int n : new int[] {LEAST, -1, 0, 6, 7, MOST}) {
            refused("16 over of " + n, BAD, RefusalsTest::later, x -> x.over(0, n));
        }
        for (int n : new int[] {LEAST, -1, 0, 4, 5, MOST}) {
            refused("17 best of " + n, BAD, RefusalsTest::fullSkies, x -> x.best(n, -1));
        }
        for (int n = 1; n <= 3; n++) {
            int hours = n;
            for (int i : new int[] {LEAST, -2, n, n + 1, MOST}) {
                refused("17 best of " + n + ", HOUR " + i, BAD, RefusalsTest::fullSkies,
                        x -> x.best(hours, i));
            }
        }
        for (int n : new int[] {LEAST, -1, 10, 11, MOST}) {
            refused("19 more by " + n, BAD, RefusalsTest::later, x -> x.more(0, n));
        }
        for (int n : new int[] {LEAST, -1, 0, 10, 11, MOST}) {
            refused("23 rain for " + n, BAD, RefusalsTest::later, x -> x.rain(n));
        }
    }

    private static void outAndNight() {
        for (int n : new int[] {LEAST, -1, 0, 101, 102, MOST}) {
            refused("24 a " + n, BAD, RefusalsTest::later, x -> x.out(0, 4, n, 100, 0));
            refused("24 b " + n, BAD, RefusalsTest::later, x -> x.out(0, 4, 1, n, 0));
            refused("24 both " + n, BAD, RefusalsTest::later, x -> x.out(0, 4, n, n, 0));
        }
        refused("24 a above b", BAD, RefusalsTest::later, x -> x.out(0, 4, 2, 1, 0));
        refused("24 100 of 99", BAD, RefusalsTest::later, x -> x.out(0, 4, 100, 99, 0));
        for (int n : new int[] {LEAST, -1, 10, 11, MOST}) {
            refused("24 w " + n, BAD, RefusalsTest::later, x -> x.out(0, 4, 1, 100, n));
        }
        for (int n : new int[] {LEAST, -1, 10000, 10001, MOST}) {
            refused("25 z " + n, BAD, RefusalsTest::later, x -> x.night(n, 0, 1, 0));
        }
        for (int n : new int[] {LEAST, -1, 0, 25, 26, MOST}) {
            refused("25 night of " + n, BAD, RefusalsTest::later, x -> x.night(0, 0, n, 0));
        }
        for (int n : new int[] {LEAST, -1, 2, 3, MOST}) {
            refused("25 what " + n, BAD, RefusalsTest::later, x -> x.night(0, 0, 1, n));
        }
        for (int far : FAR) {
            refused("25 all of " + far, BAD, RefusalsTest::later, x -> x.night(far, far, far, far));
            refused("24 all of " + far, BAD, RefusalsTest::later, x -> x.out(far, far, far, far, far));
        }
    }

    // ---- NO and NONE

    private static void hoursTooFew() {
        for (int n = 1; n <= 3; n++) {
            int hours = n;
            for (int i = -1; i < n; i++) {
                int hour = i;
                refused("17 best of " + n + " without a row", NO, RefusalsTest::three,
                        x -> x.best(hours, hour));
            }
        }
        refused("17 best of 3 by two", NO, RefusalsTest::later, x -> x.best(3, -1));
        refused("17 best of 3 by two, HOUR 2", NO, RefusalsTest::later, x -> x.best(3, 2));
        refused("18 first without a row", NO, RefusalsTest::three, x -> x.first(0));
        refused("22 look without a row", NO, RefusalsTest::three, x -> x.look(0));
        refused("24 none without a row", NONE, RefusalsTest::three, x -> x.out(0, 4, 1, 100, 0));
        // Behind HOUR 1 and 2 at most: both below 0 less 9.
        refused("24 below 0", NONE, RefusalsTest::later, x -> x.out(0, 4, 1, 100, 9));
    }

    private static void gone() {
        for (Lead lead : new Lead[] {RefusalsTest::later, RefusalsTest::three}) {
            for (int k = -1; k < 4; k++) {
                int place = k;
                refused("7 thought of a GONE one, " + k, NO, lead, x -> x.thought(1, place));
            }
            refused("9 a GONE one is heard", NO, lead, x -> x.creak(1, true));
            refused("9 a GONE one is not heard", NO, lead, x -> x.creak(1, false));
            refused("10 a GONE one goes", NO, lead, x -> x.goes(1, 0, 0));
            refused("10 a GONE one, below", NO, lead, x -> x.goes(1, 200, 1));
            refused("18 first of a GONE one", NO, lead, x -> x.first(1));
            refused("20 a prop at a GONE one", NO, lead, x -> x.prop(1));
            refused("21 instead at a GONE one", NO, lead, x -> x.instead(0, 1));
            refused("22 look at a GONE one", NO, lead, x -> x.look(1));
            refused("24 out of a GONE one", NO, lead, x -> x.out(1, 4, 1, 100, 0));
        }
        // ROOF 0: PRESS 32 at first, it bears 35, 45, 70 and, not heard, none of them below 38.
        refused("9 heard, CHANCES would be 0", NO, RefusalsTest::three, x -> x.creak(0, true));
        refused("5 GONE, FELT when LAID", NO, RefusalsTest::three, x -> x.prop(1));
    }

    // ---- FULL

    private static void fullOfCreaks() {
        for (int i = 0; i <= 2; i += 2) {
            int roof = i;
            refused("9 a 21st creak of ROOF " + i, FULL, RefusalsTest::fullCreaks,
                    x -> x.creak(roof, false));
            refused("9 CHANCES would be 0, ahead of FULL, ROOF " + i, NO, RefusalsTest::fullCreaks,
                    x -> x.creak(roof, true));
        }
        refused("9 GONE ahead of FULL", NO, RefusalsTest::fullCreaks, x -> x.creak(1, false));
        refused("9 BAD ahead of FULL", BAD, RefusalsTest::fullCreaks, x -> x.creak(3, false));
    }

    private static void fullOfProps() {
        refused("20 a fourth prop", FULL, RefusalsTest::fullProps, x -> x.prop(0));
        refused("21 instead with three", FULL, RefusalsTest::fullProps, x -> x.instead(0, 0));
        refused("21 instead with three, BAD RULE", BAD, RefusalsTest::fullProps, x -> x.instead(5, 0));
        refused("20 GONE with three", NO, RefusalsTest::fullProps, x -> x.prop(2));
        refused("21 instead, GONE with three", NO, RefusalsTest::fullProps, x -> x.instead(0, 2));
        refused("21 BAD RULE, GONE with three", BAD, RefusalsTest::fullProps, x -> x.instead(-1, 2));
        refused("20 ROOF 3", BAD, RefusalsTest::fullProps, x -> x.prop(3));
        RoofsOfSnow x = fullProps();
        CHECK.due("20 3 at most at ONE", x.prop(1), 1);
    }

    private static void fullOfSkies() {
        for (int k = 0; k < 3; k++) {
            int kind = k;
            refused("13 a 13th SKY " + k, FULL, RefusalsTest::fullSkies, x -> x.sky(kind));
        }
        refused("13 BAD ahead of FULL", BAD, RefusalsTest::fullSkies, x -> x.sky(3));
        refused("13 -1 ahead of FULL", BAD, RefusalsTest::fullSkies, x -> x.sky(-1));
    }

    private static void keepAndBack() {
        refused("26 a third", FULL, RefusalsTest::fullKept, RoofsOfSnow::keep);
        refused("27 none KEPT", NO, RefusalsTest::three, RoofsOfSnow::back);
        refused("27 none KEPT at first", NO, RoofsOfSnow::new, RoofsOfSnow::back);
        refused("27 none KEPT more", NO, () -> {
            RoofsOfSnow x = fullKept();
            x.back();
            x.back();
            return x;
        }, RoofsOfSnow::back);
    }

    // ---- "Of several the first in this order, whatever the order at a call"

    private static void severalAtOnce() {
        refused("7 BAD ahead of GONE", BAD, RefusalsTest::later, x -> x.thought(1, 4));
        refused("7 BAD ahead of GONE, -2", BAD, RefusalsTest::later, x -> x.thought(1, -2));
        refused("10 BAD x ahead of GONE", BAD, RefusalsTest::later, x -> x.goes(1, 201, 0));
        refused("10 BAD part ahead of GONE", BAD, RefusalsTest::later, x -> x.goes(1, 0, 2));
        refused("17 BAD n ahead of NO", BAD, RefusalsTest::three, x -> x.best(4, -1));
        refused("17 BAD i ahead of NO", BAD, RefusalsTest::three, x -> x.best(1, 1));
        refused("17 BAD i of a row too short", BAD, RefusalsTest::later, x -> x.best(3, 3));
        refused("18 BAD ahead of no row", BAD, RefusalsTest::three, x -> x.first(3));
        refused("21 BAD RULE ahead of GONE", BAD, RefusalsTest::later, x -> x.instead(5, 1));
        refused("22 BAD ahead of no row", BAD, RefusalsTest::three, x -> x.look(-1));
        refused("24 BAD RULE ahead of GONE", BAD, RefusalsTest::later, x -> x.out(1, 5, 1, 1, 0));
        refused("24 BAD a ahead of GONE", BAD, RefusalsTest::later, x -> x.out(1, 4, 0, 1, 0));
        refused("24 BAD b ahead of GONE", BAD, RefusalsTest::later, x -> x.out(1, 4, 1, 101, 0));
        refused("24 BAD w ahead of GONE", BAD, RefusalsTest::later, x -> x.out(1, 4, 1, 1, 10));
        refused("24 BAD ROOF ahead of NONE", BAD, RefusalsTest::three, x -> x.out(3, 4, 1, 1, 0));
        refused("24 BAD RULE ahead of NONE", BAD, RefusalsTest::three, x -> x.out(0, -1, 1, 1, 0));
        refused("24 BAD a ahead of NONE", BAD, RefusalsTest::three, x -> x.out(0, 4, 2, 1, 0));
        refused("24 BAD w ahead of NONE", BAD, RefusalsTest::three, x -> x.out(0, 4, 1, 1, -1));
        refused("24 GONE ahead of NONE", NO, RefusalsTest::three, x -> x.out(1, 4, 1, 1, 0));
        refused("24 GONE ahead of below 0", NO, RefusalsTest::later, x -> x.out(1, 4, 1, 100, 9));
    }

    // ---- what only answers

    private static void onlyAnswers() {
        for (Lead lead : new Lead[] {RefusalsTest::later, RefusalsTest::fullSkies}) {
            for (int r = 0; r < 5; r++) {
                int rule = r;
                answers("15 loss " + r, lead, x -> x.loss(rule));
                answers("16 over " + r, lead, x -> x.over(rule, 5));
                answers("19 more " + r, lead, x -> x.more(rule, 9));
                answers("21 instead " + r, lead, x -> x.instead(rule, 2));
                answers("25 night " + r, lead, x -> x.night(9999, rule, 24, 0));
                answers("25 night, lost, " + r, lead, x -> x.night(4, rule, 24, 1));
            }
            for (int i = 0; i <= 2; i += 2) {
                int roof = i;
                answers("10 goes " + i, lead, x -> x.goes(roof, 200, 1));
                answers("18 first " + i, lead, x -> x.first(roof));
                answers("22 look " + i, lead, x -> x.look(roof));
                answers("7 thought " + i, lead, x -> x.thought(roof, -1));
                answers("6 roof " + i, lead, x -> x.roof(roof, 2));
            }
            answers("17 best 1", lead, x -> x.best(1, -1));
            answers("17 best 2", lead, x -> x.best(2, 1));
            answers("23 rain", lead, x -> x.rain(9));
            answers("8 now", lead, x -> x.now(3));
            answers("28 count", lead, x -> x.count(1));
        }
        answers("24 out", RefusalsTest::fullSkies, x -> x.out(0, 4, 1, 100, 0));
        answers("4 fault", () -> told("s1;x"), RoofsOfSnow::fault);
        refused("4 NONE", NONE, RefusalsTest::later, RoofsOfSnow::fault);
    }
}

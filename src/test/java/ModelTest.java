import java.util.Random;

/** Long runs of drawn calls: each answer beside the one of the second model. */
public final class ModelTest {
    private static final int RUNS = 400;
    private static final int CALLS = 300;

    private final Random random;
    private final Check check;
    private RoofsOfSnow x;
    private Model model;

    private ModelTest(long seed, Check check) {
        random = new Random(seed);
        this.check = check;
    }

    public static void main(String[] args) {
        int runs = args.length > 0 ? Integer.parseInt(args[0]) : RUNS;
        long from = args.length > 1 ? Long.parseLong(args[1]) : 0;
        Check check = new Check();
        for (long seed = from; seed < from + runs; seed++) {
            new ModelTest(seed, check).run(seed);
        }
        check.end();
    }

    private void run(long seed) {
        x = new RoofsOfSnow();
        model = new Model();
        if (random.nextInt(8) > 0) {
            tellVillage(seed);
        }
        // BEST of 3 HOURS is dear in the second model.
        int dear = 2;
        for (int call = 0; call < CALLS; call++) {
            int kind = random.nextInt(34);
            if (kind == 33) {
                tellVillage(seed);
            } else if (kind == 17 && dear-- > 0) {
                int i = number(-1, 2);
                due(seed, "best 3 " + i, x.best(3, i), model.best(3, i));
            } else {
                oneCall(seed, kind);
            }
        }
    }

    private void due(long seed, String call, long got, long want) {
        check.due("run " + seed + ": " + call, got, want);
    }

    /** Mostly in range, at times just behind it, seldom far off. */
    private int number(int least, int most) {
        int how = random.nextInt(40);
        if (how == 0) {
            return least - 1;
        }
        if (how == 1) {
            return most + 1;
        }
        if (how == 2 && random.nextInt(4) == 0) {
            return random.nextBoolean() ? Integer.MAX_VALUE : Integer.MIN_VALUE;
        }
        return least + random.nextInt(most - least + 1);
    }

    private int aRoof() {
        return number(0, x.count(0) - 1);
    }

    private void oneCall(long seed, int kind) {
        int i = aRoof();
        int rule = number(0, 4);
        int a = number(1, 10);
        switch (kind) {
            case 0: case 1: {
                int what = number(0, 7);
                due(seed, "roof " + i + " " + what, x.roof(i, what), model.roof(i, what));
                break;
            }
            case 2: case 3: {
                int k = number(-1, 3);
                due(seed, "thought " + i + " " + k, x.thought(i, k), model.thought(i, k));
                break;
            }
            case 4: {
                int what = number(0, 3);
                due(seed, "now " + what, x.now(what), model.now(what));
                break;
            }
            case 5: case 6: {
                boolean heard = random.nextInt(3) == 0;
                due(seed, "creak " + i + " " + heard, x.creak(i, heard), model.creak(i, heard));
                break;
            }
            case 7: {
                int more = number(0, random.nextBoolean() ? 30 : 200);
                int part = number(0, 1);
                due(seed, "goes " + i + " " + more, x.goes(i, more, part), model.goes(i, more, part));
                break;
            }
            case 8: {
                int side = number(0, 1);
                due(seed, "tell " + i + " " + side, x.tell(i, side), model.tell(i, side));
                break;
            }
            case 9: {
                int sky = number(0, 2);
                due(seed, "on " + rule + " " + sky, x.on(rule, sky), model.on(rule, sky));
                everyRoof(seed);
                break;
            }
            case 10: case 11: case 12: {
                int k = number(0, 2);
                due(seed, "sky " + k, x.sky(k), model.sky(k));
                break;
            }
            case 13:
                if (random.nextInt(4) == 0) {
                    due(seed, "noSkies", x.noSkies(), model.noSkies());
                }
                break;
            case 14: case 15:
                due(seed, "loss " + rule, x.loss(rule), model.loss(rule));
                break;
            case 16: {
                int n = number(1, random.nextInt(4) == 0 ? 5 : 3);
                due(seed, "over " + rule + " " + n, x.over(rule, n), model.over(rule, n));
                break;
            }
            case 17: case 18: {
                int n = random.nextInt(10) == 0 ? (random.nextBoolean() ? 0 : 4) : 1 + random.nextInt(2);
                int hour = number(-1, 1);
                due(seed, "best " + n + " " + hour, x.best(n, hour), model.best(n, hour));
                break;
            }
            case 19:
                due(seed, "first " + i, x.first(i), model.first(i));
                break;
            case 20: {
                int hands = number(0, 9);
                due(seed, "more " + rule + " " + hands, x.more(rule, hands), model.more(rule, hands));
                break;
            }
            case 21:
                due(seed, "prop " + i, x.prop(i), model.prop(i));
                break;
            case 22: case 23:
                due(seed, "instead " + rule + " " + i, x.instead(rule, i), model.instead(rule, i));
                break;
            case 24: case 25:
                due(seed, "look " + i, x.look(i), model.look(i));
                break;
            case 26: {
                int n = number(1, 9);
                due(seed, "rain " + n, x.rain(n), model.rain(n));
                break;
            }
            case 27: case 28: {
                int b = random.nextInt(10) == 0 ? number(1, 100) : a + random.nextInt(10);
                int w = number(0, random.nextBoolean() ? 2 : 9);
                due(seed, "out " + i + " " + rule + " " + a + " " + b + " " + w,
                        x.out(i, rule, a, b, w), model.out(i, rule, a, b, w));
                break;
            }
            case 29: case 30: {
                int z = number(0, 9999);
                int n = number(1, 24);
                int what = number(0, 1);
                due(seed, "night " + z + " " + rule + " " + n + " " + what,
                        x.night(z, rule, n, what), model.night(z, rule, n, what));
                break;
            }
            case 31:
                if (random.nextBoolean()) {
                    due(seed, "keep", x.keep(), model.keep());
                } else {
                    due(seed, "back", x.back(), model.back());
                }
                break;
            default: {
                int what = number(0, 4);
                due(seed, "count " + what, x.count(what), model.count(what));
                break;
            }
        }
    }

    private void everyRoof(long seed) {
        for (int i = 0; i < x.count(0); i++) {
            for (int what = 0; what < 8; what++) {
                due(seed, "roof " + i + " " + what, x.roof(i, what), model.roof(i, what));
            }
        }
    }

    private void tellVillage(long seed) {
        due(seed, "wipe", x.wipe(), model.wipe());
        String text = village();
        for (int place = 0; place < text.length();) {
            int n = Math.min(1 + random.nextInt(8), text.length() - place);
            long v = random.nextInt();
            for (int j = 0; j < n; j++) {
                v = v << 8 | text.charAt(place + j);
            }
            due(seed, "write " + n, x.write(n, v), model.write(n, v));
            place += n;
        }
        due(seed, "fault of " + text, x.fault(), model.fault());
        due(seed, "lay of " + text, x.lay(), model.lay());
        everyRoof(seed);
    }

    private int upTo(int most) {
        return random.nextInt(most + 1);
    }

    /** A village, at times with a sign that is off. */
    private String village() {
        StringBuilder s = new StringBuilder();
        int roofs = 1 + upTo(random.nextInt(5) == 0 ? 8 : 3);
        int most = random.nextInt(3) == 0 ? 200 : 40;
        for (int i = 0; i < roofs; i++) {
            int onto = random.nextInt(3) == 0 ? 8 : upTo(Math.min(roofs, 8));
            onto = onto == i || onto >= roofs ? 8 : onto;
            int left = upTo(most);
            int right = upTo(most);
            int uneven = upTo(random.nextBoolean() ? 20 : 3);
            item(s, 'r', left, right, uneven, random.nextInt(3) == 0 ? 1 + upTo(60) : 999, upTo(30),
                    onto);
            bearings(s, i, left + right + uneven * Math.abs(left - right) / 10, most);
        }
        for (int n = upTo(roofs); n > 0; n--) {
            item(s, 'p', upTo(roofs - 1), upTo(12));
        }
        for (int n = upTo(6); n > 0; n--) {
            item(s, 'k', upTo(2), upTo(most / 3), upTo(most / 3), random.nextBoolean() ? 0 : upTo(9));
        }
        for (int n = upTo(4); n > 0; n--) {
            int one = upTo(10);
            int two = upTo(10 - one);
            item(s, 'c', upTo(2), one, two, 10 - one - two);
        }
        settings(s);
        if (random.nextInt(6) == 0) {
            s.setCharAt(upTo(s.length() - 1), ",;01289rbz".charAt(upTo(9)));
        }
        return s.toString();
    }

    /** Of B that are near enough to the PRESS for a few HOURS to count. */
    private void bearings(StringBuilder s, int i, int press, int most) {
        int left = 10;
        for (int k = upTo(4); k > 0; k--) {
            int by = k == 1 && random.nextInt(60) > 0 ? left : upTo(left);
            int bears = press - 5 + upTo(random.nextBoolean() ? most : 4 * most);
            item(s, 'b', i, Math.max(1, Math.min(bears, 999)), by);
            left -= by;
        }
    }

    private void settings(StringBuilder s) {
        int most = random.nextInt(3) == 0 ? 9 : 3;
        if (random.nextInt(4) > 0) {
            item(s, 'h', upTo(most), 1 + upTo(random.nextBoolean() ? 49 : 10));
        }
        if (random.nextBoolean()) {
            item(s, 'g', upTo(99));
        }
        if (random.nextInt(4) > 0) {
            item(s, 'o', upTo(60), 1 + upTo(3));
        }
        if (random.nextBoolean()) {
            item(s, 'l', upTo(999));
        }
        if (random.nextBoolean()) {
            item(s, 's', upTo(2));
        }
    }

    private static void item(StringBuilder s, char letter, int... numbers) {
        s.append(letter);
        for (int j = 0; j < numbers.length; j++) {
            s.append(j == 0 ? "" : ",").append(numbers[j]);
        }
        s.append(';');
    }
}

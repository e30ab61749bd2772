import java.math.BigInteger;
import java.util.ArrayList;
import java.util.Arrays;
import java.util.List;

/**
 * The document once more, written for plainness alone: nothing is kept that can be reckoned
 * anew, every row is tried, every number is as large as it likes.
 */
final class Model {
    private static final int BAD = -1, NO = -2, FULL = -3, NONE = -4;

    /** What a text tells. */
    private static final class Told {
        final List<int[]> roofs = new ArrayList<>();
        final List<List<int[]>> bears = new ArrayList<>();
        final List<Integer> people = new ArrayList<>();
        final int[][] skies = new int[3][3];
        final int[][] chain = {{4, 3, 3}, {4, 3, 3}, {4, 3, 3}};
        int sky = 0;
        int[] hands = {1, 10};
        int gap = 10;
        int[] prop = {50, 3};
        int life = 100;
    }

    /** One ROOF as it is. */
    private static final class Roof {
        int left;
        int right;
        boolean stands = true;
        List<Integer> stood = new ArrayList<>();
        // The same by themselves, not beside a B.
        List<Integer> stoodBare = new ArrayList<>();
        List<int[]> creaks = new ArrayList<>();
        List<Integer> props = new ArrayList<>();

        Roof copy() {
            Roof c = new Roof();
            c.left = left;
            c.right = right;
            c.stands = stands;
            c.stood = new ArrayList<>(stood);
            c.stoodBare = new ArrayList<>(stoodBare);
            c.creaks = new ArrayList<>(creaks);
            c.props = new ArrayList<>(props);
            return c;
        }
    }

    /** The village as it is. */
    private static final class Now {
        List<Roof> roofs = new ArrayList<>();
        int hour;
        int sky;
        int told;

        Now copy() {
            Now c = new Now();
            for (Roof r : roofs) {
                c.roofs.add(r.copy());
            }
            c.hour = hour;
            c.sky = sky;
            c.told = told;
            return c;
        }
    }

    private String text = "";
    private Told told;
    private Now now;
    private List<Integer> row = new ArrayList<>();
    private List<Now> kept = new ArrayList<>();
    // In LOOK: of this ROOF that B alone.
    private int onlyRoof = -1;
    private int onlyB = -1;

    Model() {
        told = read("r0,0,0,999,0,8;");
        start();
    }

    // ---- the text

    private int faultAt;

    private Told read(String all) {
        Told t = new Told();
        int place = 0;
        faultAt = NONE;
        while (place < all.length()) {
            int end = all.indexOf(';', place);
            if (end < 0 || !readItem(t, all.substring(place, end))) {
                faultAt = place;
                return null;
            }
            place = end + 1;
        }
        return t;
    }

    private static boolean readItem(Told t, String item) {
        if (!item.matches("[rbpkcshgol][0-9]{1,3}(,[0-9]{1,3})*")) {
            return false;
        }
        int[] n = Arrays.stream(item.substring(1).split(",")).mapToInt(Integer::parseInt).toArray();
        switch (item.charAt(0)) {
            case 'r':
                if (n.length != 6 || n[0] > 200 || n[1] > 200 || n[2] > 20 || n[3] < 1 || n[5] > 8
                        || t.roofs.size() == 8) {
                    return false;
                }
                t.roofs.add(n);
                t.bears.add(new ArrayList<>());
                t.people.add(0);
                return true;
            case 'b':
                if (n.length != 3 || n[0] >= t.roofs.size() || n[1] < 1 || n[2] > 10
                        || t.bears.get(n[0]).size() == 4) {
                    return false;
                }
                t.bears.get(n[0]).add(new int[] {n[1], n[2]});
                return true;
            case 'p':
                if (n.length != 2 || n[0] >= t.roofs.size() || n[1] > 99) {
                    return false;
                }
                t.people.set(n[0], n[1]);
                return true;
            case 'k':
                if (n.length != 4 || n[0] > 2 || n[1] > 60 || n[2] > 60 || n[3] > 9) {
                    return false;
                }
                t.skies[n[0]] = new int[] {n[1], n[2], n[3]};
                return true;
            case 'c':
                if (n.length != 4 || n[0] > 2 || n[1] + n[2] + n[3] != 10) {
                    return false;
                }
                t.chain[n[0]] = new int[] {n[1], n[2], n[3]};
                return true;
            case 's':
                t.sky = n[0];
                return n.length == 1 && n[0] < 3;
            case 'h':
                t.hands = n;
                return n.length == 2 && n[0] < 10 && n[1] > 0 && n[1] < 51;
            case 'g':
                t.gap = n[0];
                return n.length == 1 && n[0] < 100;
            case 'o':
                t.prop = n;
                return n.length == 2 && n[0] < 201 && n[1] > 0 && n[1] < 21;
            default:
                t.life = n[0];
                return n.length == 1;
        }
    }

    private static boolean fits(Told t) {
        for (int i = 0; i < t.roofs.size(); i++) {
            int onto = t.roofs.get(i)[5];
            if (onto == i || onto != 8 && onto >= t.roofs.size()) {
                return false;
            }
            int tenths = 0;
            for (int[] b : t.bears.get(i)) {
                tenths += b[1];
            }
            if (!t.bears.get(i).isEmpty() && tenths != 10) {
                return false;
            }
        }
        return !t.roofs.isEmpty();
    }

    private void start() {
        now = new Now();
        now.sky = told.sky;
        for (int i = 0; i < told.roofs.size(); i++) {
            Roof r = new Roof();
            r.left = told.roofs.get(i)[0];
            r.right = told.roofs.get(i)[1];
            now.roofs.add(r);
            if (told.bears.get(i).isEmpty()) {
                told.bears.get(i).add(new int[] {500, 10});
            }
        }
        row = new ArrayList<>();
        kept = new ArrayList<>();
        feel();
    }

    // ---- terms

    private int press(Now v, int i, int moreLeft, int moreRight) {
        int left = v.roofs.get(i).left + moreLeft;
        int right = v.roofs.get(i).right + moreRight;
        int apart = Math.max(left, right) - Math.min(left, right);
        return left + right + told.roofs.get(i)[2] * apart / 10;
    }

    private int done(Now v, int i) {
        int sum = 0;
        for (int hours : v.roofs.get(i).props) {
            sum += hours <= 0 ? told.prop[0] : 0;
        }
        return sum;
    }

    private int counted(Now v, int i) {
        return press(v, i, 0, 0) - done(v, i);
    }

    /** The CHANCES of a ROOF in the village that is now: pairs of B and tenths that stay. */
    private List<int[]> chances(int i) {
        Roof r = now.roofs.get(i);
        List<int[]> stay = new ArrayList<>();
        for (int k = 0; k < told.bears.get(i).size(); k++) {
            int[] b = told.bears.get(i).get(k);
            boolean in = onlyRoof != i || onlyB == k;
            for (int p : r.stood) {
                in &= b[0] >= p;
            }
            for (int[] c : r.creaks) {
                in &= c[1] == 1 ? b[0] < c[0] + told.gap : b[0] >= c[0] + told.gap;
            }
            if (in) {
                stay.add(b);
            }
        }
        return stay;
    }

    private static int sum(List<int[]> chances) {
        int all = 0;
        for (int[] b : chances) {
            all += b[1];
        }
        return all;
    }

    private int below(int i, int press) {
        int part = 0;
        for (int[] b : chances(i)) {
            part += b[0] < press ? b[1] : 0;
        }
        return part;
    }

    private int feel() {
        int bits = 0;
        for (int i = 0; i < now.roofs.size(); i++) {
            Roof r = now.roofs.get(i);
            if (!r.stands) {
                continue;
            }
            r.stood.add(counted(now, i));
            if (sum(chances(i)) == 0) {
                r.stood.remove(r.stood.size() - 1);
                fall(r);
                bits += 1 << i;
            } else {
                r.stoodBare.add(press(now, i, 0, 0));
            }
        }
        return bits;
    }

    private static void fall(Roof r) {
        r.stands = false;
        r.left = 0;
        r.right = 0;
    }

    private int spot(Now v, int rule, int sky) {
        int chosen = -1;
        BigInteger[] most = null;
        for (int s = 0; s < 2 * v.roofs.size(); s++) {
            Roof r = v.roofs.get(s / 2);
            int here = s % 2 == 0 ? r.left : r.right;
            int there = s % 2 == 0 ? r.right : r.left;
            boolean side = here > there || here == there && s % 2 == 0;
            if (!r.stands || here == 0 || !side && rule != 0 && rule != 3) {
                continue;
            }
            long value;
            if (rule == 0) {
                value = here;
            } else if (rule == 1) {
                int p = press(v, s / 2, told.skies[sky][0], told.skies[sky][1]) - done(v, s / 2);
                // The part of 10 tenths at most: by a number that each of them divides.
                value = below(s / 2, p) * 2520L / sum(chances(s / 2));
            } else if (rule == 2) {
                value = told.people.get(s / 2);
            } else {
                value = rule == 3 && s == v.told ? 1 : -1;
            }
            BigInteger weight = BigInteger.valueOf(value);
            if (value >= 0 && (most == null || weight.compareTo(most[0]) > 0)) {
                most = new BigInteger[] {weight};
                chosen = s;
            }
        }
        return chosen;
    }

    private void clear(Now v, int s) {
        if (s < 0) {
            return;
        }
        Roof r = v.roofs.get(s / 2);
        int much = Math.min(told.hands[1], s % 2 == 0 ? r.left : r.right);
        if (s % 2 == 0) {
            r.left -= much;
        } else {
            r.right -= much;
        }
        int onto = told.roofs.get(s / 2)[5];
        if (onto < 8 && v.roofs.get(onto).stands) {
            v.roofs.get(onto).left += much;
        }
    }

    private void weather(Now v, int sky) {
        int[] k = told.skies[sky];
        for (int i = 0; i < v.roofs.size(); i++) {
            Roof r = v.roofs.get(i);
            if (r.stands) {
                int slides = told.roofs.get(i)[3];
                r.left = Math.min(slides, r.left + k[0] + r.left * k[2] / 10);
                r.right = Math.min(slides, r.right + k[1] + r.right * k[2] / 10);
            }
            r.props.replaceAll(hours -> hours - 1);
        }
        v.hour++;
        v.sky = sky;
    }

    private void hour(Now v, int rule, int sky, int hands) {
        for (int h = 0; h < hands; h++) {
            clear(v, spot(v, rule, sky));
        }
        weather(v, sky);
    }

    private void hourAt(Now v, int s, int sky) {
        for (int h = 0; h < told.hands[0]; h++) {
            clear(v, s);
        }
        weather(v, sky);
    }

    /** By the villages behind each HOUR. */
    private long lossBy(List<Now> behind) {
        long together = 0;
        for (int i = 0; i < now.roofs.size() && !behind.isEmpty(); i++) {
            if (now.roofs.get(i).stands) {
                int worst = Integer.MIN_VALUE;
                for (Now v : behind) {
                    worst = Math.max(worst, counted(v, i));
                }
                BigInteger w = BigInteger.valueOf(told.roofs.get(i)[4])
                        .add(BigInteger.valueOf(told.life).multiply(BigInteger.valueOf(told.people.get(i))));
                together += w.multiply(BigInteger.valueOf(1000000L * below(i, worst)))
                        .divide(BigInteger.valueOf(sum(chances(i)))).longValueExact();
            }
        }
        return together;
    }

    private long lossOf(Now from, int rule, List<Integer> skies, int firstHands, int hands) {
        List<Now> behind = new ArrayList<>();
        Now v = from.copy();
        for (int sky : skies) {
            hour(v, rule, sky, behind.isEmpty() ? firstHands : hands);
            behind.add(v.copy());
        }
        return lossBy(behind);
    }

    private long lossOfSpots(int[] spots) {
        List<Now> behind = new ArrayList<>();
        Now v = now.copy();
        for (int t = 0; t < spots.length; t++) {
            hourAt(v, spots[t] == 16 ? -1 : spots[t], row.get(t));
            behind.add(v.copy());
        }
        return lossBy(behind);
    }

    /** The row of least LOSS, the first of such, and behind it that LOSS. */
    private long[] bestRow(int n) {
        long[] best = null;
        int rows = (int) Math.pow(17, n);
        for (int r = 0; r < rows; r++) {
            int[] spots = new int[n];
            int rest = r;
            boolean may = true;
            for (int t = n - 1; t >= 0; t--) {
                spots[t] = rest % 17;
                rest /= 17;
                may &= spots[t] == 16
                        || spots[t] / 2 < now.roofs.size() && now.roofs.get(spots[t] / 2).stands;
            }
            if (may) {
                long lost = lossOfSpots(spots);
                if (best == null || lost < best[n]) {
                    best = new long[n + 1];
                    for (int t = 0; t < n; t++) {
                        best[t] = spots[t];
                    }
                    best[n] = lost;
                }
            }
        }
        return best;
    }

    private int draw(int z, int i, int k) {
        BigInteger x = BigInteger.valueOf(7919L * z + 6151L * i + 3571L * k + 1);
        return x.multiply(x).mod(BigInteger.valueOf(65521)).mod(BigInteger.valueOf(10000)).intValue();
    }

    // ---- the calls

    private boolean isRoof(int i) {
        return i >= 0 && i < now.roofs.size();
    }

    private static boolean in(int x, int least, int most) {
        return x >= least && x <= most;
    }

    int write(int n, long v) {
        if (!in(n, 1, 8)) {
            return BAD;
        }
        if (text.length() + n > 500) {
            return FULL;
        }
        byte[] bytes = java.nio.ByteBuffer.allocate(8).putLong(v).array();
        for (int j = 8 - n; j < 8; j++) {
            text += (char) (bytes[j] & 255);
        }
        return text.length();
    }

    int wipe() {
        int was = text.length();
        text = "";
        return was;
    }

    int fault() {
        read(text);
        return faultAt;
    }

    int lay() {
        Told t = read(text);
        if (t == null || !fits(t)) {
            return NO;
        }
        told = t;
        start();
        return t.roofs.size();
    }

    int roof(int i, int what) {
        if (!isRoof(i) || !in(what, 0, 7)) {
            return BAD;
        }
        Roof r = now.roofs.get(i);
        int greatest = 0;
        for (int p : r.stoodBare) {
            greatest = Math.max(greatest, p);
        }
        return new int[] {r.left, r.right, press(now, i, 0, 0), done(now, i), r.props.size(),
            r.stands ? 1 : 0, greatest, told.people.get(i)}[what];
    }

    int thought(int i, int k) {
        if (!isRoof(i) || !in(k, -1, 3)) {
            return BAD;
        }
        if (!now.roofs.get(i).stands) {
            return NO;
        }
        if (k == -1) {
            return sum(chances(i));
        }
        List<int[]> all = told.bears.get(i);
        return k < all.size() && chances(i).contains(all.get(k)) ? all.get(k)[1] : 0;
    }

    int now(int what) {
        if (!in(what, 0, 3)) {
            return BAD;
        }
        int bits = 0;
        for (int i = 0; i < now.roofs.size(); i++) {
            bits += now.roofs.get(i).stands ? 1 << i : 0;
        }
        return new int[] {now.hour, now.sky, told.hands[0], bits}[what];
    }

    int creak(int i, boolean heard) {
        if (!isRoof(i)) {
            return BAD;
        }
        Roof r = now.roofs.get(i);
        if (!r.stands) {
            return NO;
        }
        int before = count(3);
        r.creaks.add(new int[] {counted(now, i), heard ? 1 : 0});
        int all = sum(chances(i));
        if (all == 0 || before == 20) {
            r.creaks.remove(r.creaks.size() - 1);
            return all == 0 ? NO : FULL;
        }
        return all;
    }

    int goes(int i, int x, int part) {
        if (!isRoof(i) || !in(x, 0, 200) || !in(part, 0, 1)) {
            return BAD;
        }
        if (!now.roofs.get(i).stands) {
            return NO;
        }
        BigInteger a = BigInteger.valueOf(below(i, press(now, i, x, x) - done(now, i)));
        BigInteger b = BigInteger.valueOf(sum(chances(i)));
        return (part == 0 ? a : b).divide(a.gcd(b)).intValue();
    }

    int tell(int i, int side) {
        if (!isRoof(i) || !in(side, 0, 1)) {
            return BAD;
        }
        int was = now.told;
        now.told = 2 * i + side;
        return was;
    }

    int on(int rule, int sky) {
        if (!in(rule, 0, 4) || !in(sky, 0, 2)) {
            return BAD;
        }
        hour(now, rule, sky, told.hands[0]);
        return feel();
    }

    int sky(int k) {
        if (!in(k, 0, 2)) {
            return BAD;
        }
        if (row.size() == 12) {
            return FULL;
        }
        row.add(k);
        return row.size();
    }

    int noSkies() {
        int had = row.size();
        row.clear();
        return had;
    }

    long loss(int rule) {
        return in(rule, 0, 4) ? lossOf(now, rule, row, told.hands[0], told.hands[0]) : BAD;
    }

    long over(int rule, int n) {
        if (!in(rule, 0, 4) || !in(n, 1, 5)) {
            return BAD;
        }
        BigInteger together = BigInteger.ZERO;
        for (int r = 0; r < Math.pow(3, n); r++) {
            List<Integer> skies = new ArrayList<>();
            long product = 1;
            int rest = r;
            int ahead = now.sky;
            for (int t = 0; t < n; t++) {
                skies.add(rest % 3);
                product *= told.chain[ahead][rest % 3];
                ahead = rest % 3;
                rest /= 3;
            }
            BigInteger lost = BigInteger.valueOf(lossOf(now, rule, skies, told.hands[0], told.hands[0]));
            together = together.add(lost.multiply(BigInteger.valueOf(product)));
        }
        return together.divide(BigInteger.TEN.pow(n)).longValueExact();
    }

    long best(int n, int i) {
        if (!in(n, 1, 3) || !in(i, -1, n - 1)) {
            return BAD;
        }
        if (row.size() < n) {
            return NO;
        }
        return bestRow(n)[i == -1 ? n : i];
    }

    long first(int i) {
        if (!isRoof(i)) {
            return BAD;
        }
        if (!now.roofs.get(i).stands || row.isEmpty()) {
            return NO;
        }
        long[] lost = new long[2];
        for (int side = 0; side < 2; side++) {
            List<Now> behind = new ArrayList<>();
            Now v = now.copy();
            for (int t = 0; t < row.size(); t++) {
                if (t == 0) {
                    hourAt(v, 2 * i + side, row.get(t));
                } else {
                    hour(v, 0, row.get(t), told.hands[0]);
                }
                behind.add(v.copy());
            }
            lost[side] = lossBy(behind);
        }
        return lost[1] < lost[0] ? 1 : 0;
    }

    long more(int rule, int hands) {
        int all = told.hands[0] + hands;
        return in(rule, 0, 4) && in(hands, 0, 9) ? lossOf(now, rule, row, all, all) : BAD;
    }

    private int mayProp(int i) {
        if (!isRoof(i)) {
            return BAD;
        }
        Roof r = now.roofs.get(i);
        return !r.stands ? NO : r.props.size() == 3 ? FULL : 0;
    }

    int prop(int i) {
        if (mayProp(i) != 0) {
            return mayProp(i);
        }
        now.roofs.get(i).props.add(told.prop[1]);
        return now.roofs.get(i).props.size();
    }

    long instead(int rule, int i) {
        if (!in(rule, 0, 4) || mayProp(i) != 0) {
            return in(rule, 0, 4) ? mayProp(i) : BAD;
        }
        Now v = now.copy();
        v.roofs.get(i).props.add(told.prop[1]);
        return lossOf(v, rule, row, Math.max(0, told.hands[0] - 1), told.hands[0]);
    }

    long look(int i) {
        if (!isRoof(i)) {
            return BAD;
        }
        if (!now.roofs.get(i).stands || row.isEmpty()) {
            return NO;
        }
        List<int[]> stay = chances(i);
        int all = sum(stay);
        long less = bestRow(1)[1] * all;
        for (int[] b : stay) {
            if (b[1] > 0) {
                onlyRoof = i;
                onlyB = told.bears.get(i).indexOf(b);
                less -= b[1] * bestRow(1)[1];
                onlyRoof = -1;
            }
        }
        return less / all;
    }

    int rain(int n) {
        if (!in(n, 1, 9)) {
            return BAD;
        }
        int bits = 0;
        for (int i = 0; i < now.roofs.size(); i++) {
            Now v = now.copy();
            boolean holds = v.roofs.get(i).stands;
            for (int t = 0; t < n; t++) {
                weather(v, 2);
                holds &= below(i, counted(v, i)) == 0;
            }
            bits += holds ? 1 << i : 0;
        }
        return bits;
    }

    int out(int i, int rule, int a, int b, int w) {
        if (!isRoof(i) || !in(rule, 0, 4) || !in(a, 1, 100) || !in(b, a, 100) || !in(w, 0, 9)) {
            return BAD;
        }
        if (!now.roofs.get(i).stands) {
            return NO;
        }
        Now v = now.copy();
        int worst = Integer.MIN_VALUE;
        for (int t = 0; t < row.size(); t++) {
            hour(v, rule, row.get(t), told.hands[0]);
            worst = Math.max(worst, counted(v, i));
            if (below(i, worst) * b >= a * sum(chances(i))) {
                return t + 1 - w < 0 ? NONE : t + 1 - w;
            }
        }
        return NONE;
    }

    int night(int z, int rule, int n, int what) {
        if (!in(z, 0, 9999) || !in(rule, 0, 4) || !in(n, 1, 24) || !in(what, 0, 1)) {
            return BAD;
        }
        Now v = now.copy();
        int bits = 0;
        int lost = 0;
        for (int t = 0; t < n; t++) {
            int drawn = draw(z, v.hour, 98) % 10;
            int[] tenths = told.chain[v.sky];
            hour(v, rule, drawn < tenths[0] ? 0 : drawn < tenths[0] + tenths[1] ? 1 : 2, told.hands[0]);
            for (int i = 0; i < v.roofs.size(); i++) {
                if (v.roofs.get(i).stands && counted(v, i) > borne(z, i)) {
                    fall(v.roofs.get(i));
                    bits += 1 << i;
                    lost += told.roofs.get(i)[4] + told.life * told.people.get(i);
                }
            }
        }
        return what == 0 ? bits : lost;
    }

    private int borne(int z, int i) {
        int drawn = draw(z, i, 99) % sum(chances(i));
        for (int[] b : chances(i)) {
            drawn -= b[1];
            if (drawn < 0) {
                return b[0];
            }
        }
        throw new IllegalStateException("nothing drawn");
    }

    int keep() {
        if (kept.size() == 2) {
            return FULL;
        }
        kept.add(now.copy());
        return kept.size();
    }

    int back() {
        if (kept.isEmpty()) {
            return NO;
        }
        now = kept.remove(kept.size() - 1);
        return kept.size();
    }

    int count(int what) {
        if (!in(what, 0, 4)) {
            return BAD;
        }
        int creaks = 0;
        for (Roof r : now.roofs) {
            creaks += r.creaks.size();
        }
        return new int[] {now.roofs.size(), text.length(), row.size(), creaks, kept.size()}[what];
    }
}

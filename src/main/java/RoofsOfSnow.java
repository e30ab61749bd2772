/**
 * Which roof first: a village of roofs under snow, told in a text, and what
 * its snow may bring down. The promises stand in ../shared/DOC.md.
 */
public final class RoofsOfSnow {
    public static final int BAD = -1, NO = -2, FULL = -3, NONE = -4;

    private static final int MOST_ROOFS = 8;
    private static final int MOST_SPOTS = 16;
    private static final int MOST_BEARINGS = 4;
    private static final int MOST_PROPS = 3;
    private static final int MOST_BYTES = 500;
    private static final int MOST_SKIES = 12;
    private static final int MOST_CREAKS = 20;
    private static final int MOST_KEPT = 2;
    private static final int MOST_TRIED_HOURS = 3;
    private static final int MOST_OVER_HOURS = 5;
    private static final int KINDS_OF_SKY = 3;
    private static final int RAINY_SKY = 2;
    private static final int ALL_TENTHS = 10;
    private static final long MILLION = 1000000L;

    // A SIDE of a ROOF is a spot: 2 ROOF and SIDE; this one is none.
    private static final int NOWHERE = 16;
    private static final int GROUND = 8;

    private static final int DEEP = 0, WEAK = 1, PEOPLE = 2, TOLD = 3, IDLE = 4;

    private static final String LETTERS = "rbpkcshgol";
    private static final int ITEM_ROOF = 0, ITEM_BEARS = 1, ITEM_PEOPLE = 2, ITEM_SKY = 3,
            ITEM_CHAIN = 4, ITEM_FIRST_SKY = 5, ITEM_HANDS = 6, ITEM_GAP = 7, ITEM_PROP = 8,
            ITEM_LIFE = 9;
    private static final int MOST_NUMBERS = 6;
    private static final int[] NUMBERS = {6, 3, 2, 4, 4, 1, 2, 1, 2, 1};
    private static final int[] LEAST = {
        0, 0, 0, 1, 0, 0,
        0, 1, 0, 0, 0, 0,
        0, 0, 0, 0, 0, 0,
        0, 0, 0, 0, 0, 0,
        0, 0, 0, 0, 0, 0,
        0, 0, 0, 0, 0, 0,
        0, 1, 0, 0, 0, 0,
        0, 0, 0, 0, 0, 0,
        0, 1, 0, 0, 0, 0,
        0, 0, 0, 0, 0, 0};
    private static final int[] MOST = {
        200, 200, 20, 999, 999, 8,
        7, 999, 10, 0, 0, 0,
        7, 99, 0, 0, 0, 0,
        2, 60, 60, 9, 0, 0,
        2, 10, 10, 10, 0, 0,
        2, 0, 0, 0, 0, 0,
        9, 50, 0, 0, 0, 0,
        99, 0, 0, 0, 0, 0,
        200, 20, 0, 0, 0, 0,
        999, 0, 0, 0, 0, 0};

    private final Text text;
    private final Reader reader;
    private final Plan plan;
    private final Plan spare;
    private final Village village;
    private final Village keptFirst;
    private final Village keptSecond;
    private int kept;
    private final Row skies;
    private int manySkies;
    private final Village course;
    private final Search search;
    private final Row borne;

    public RoofsOfSnow() {
        text = new Text();
        reader = new Reader(text);
        plan = new Plan();
        spare = new Plan();
        village = new Village(plan, null);
        keptFirst = new Village(plan, null);
        keptSecond = new Village(plan, null);
        kept = 0;
        skies = new Row(MOST_SKIES);
        manySkies = 0;
        course = chainOf(plan, MOST_OVER_HOURS);
        search = new Search(skies);
        borne = new Row(MOST_ROOFS);
        plan.makeBare();
        village.begin();
    }

    // ---- villages

    public int write(int n, long v) {
        if (n < 1 || n > 8) {
            return BAD;
        }
        if (text.length() + n > MOST_BYTES) {
            return FULL;
        }
        for (int i = n - 1; i >= 0; i--) {
            text.append((int) ((v >>> (8 * i)) & 255L));
        }
        return text.length();
    }

    public int wipe() {
        int was = text.length();
        text.clear();
        return was;
    }

    public int fault() {
        return reader.readInto(spare);
    }

    public int lay() {
        if (reader.readInto(spare) != NONE || !spare.fitsTogether()) {
            return NO;
        }
        reader.readInto(plan);
        plan.addPlainBearings();
        village.begin();
        manySkies = 0;
        kept = 0;
        return plan.roofs;
    }

    public int roof(int i, int what) {
        if (!isRoof(i)) {
            return BAD;
        }
        switch (what) {
            case 0: return village.snow.get(2 * i);
            case 1: return village.snow.get(2 * i + 1);
            case 2: return village.pressWith(i, 0, 0);
            case 3: return village.propped(i);
            case 4: return village.props.get(i);
            case 5: return village.stands(i) ? 1 : 0;
            case 6: return village.stood.get(i);
            case 7: return plan.people.get(i);
            default: return BAD;
        }
    }

    public int thought(int i, int k) {
        if (!isRoof(i) || k < -1 || k >= MOST_BEARINGS) {
            return BAD;
        }
        if (!village.stands(i)) {
            return NO;
        }
        return k == -1 ? village.chances(i) : village.chanceOf(i, k);
    }

    public int now(int what) {
        switch (what) {
            case 0: return village.hour;
            case 1: return village.sky;
            case 2: return plan.hands;
            case 3: return village.standing;
            default: return BAD;
        }
    }

    public int creak(int i, boolean heard) {
        if (!isRoof(i)) {
            return BAD;
        }
        if (!village.stands(i)) {
            return NO;
        }
        int edge = village.load(i) + plan.gap;
        int stays = heard ? village.staysBelow(i, edge) : village.staysFrom(i, edge);
        int chances = plan.tenthsOf(i, stays);
        if (chances == 0) {
            return NO;
        }
        if (village.creaks >= MOST_CREAKS) {
            return FULL;
        }
        village.stays.set(i, stays);
        village.creaks++;
        return chances;
    }

    public int goes(int i, int x, int part) {
        if (!isRoof(i) || x < 0 || x > 200 || part < 0 || part > 1) {
            return BAD;
        }
        if (!village.stands(i)) {
            return NO;
        }
        int below = village.chancesBelow(i, village.loadWith(i, x, x));
        int all = village.chances(i);
        int common = greatestCommon(below, all);
        if (common == 0) {
            return NO;
        }
        return (part == 0 ? below : all) / common;
    }

    // ---- rules

    public int tell(int i, int side) {
        if (!isRoof(i) || side < 0 || side > 1) {
            return BAD;
        }
        int was = village.told;
        village.told = 2 * i + side;
        return was;
    }

    public int on(int rule, int sky) {
        if (!isRule(rule) || !isSky(sky)) {
            return BAD;
        }
        village.passHour(rule, sky, plan.hands);
        return village.feelAll();
    }

    public int sky(int k) {
        if (!isSky(k)) {
            return BAD;
        }
        if (manySkies >= MOST_SKIES) {
            return FULL;
        }
        skies.set(manySkies, k);
        manySkies++;
        return manySkies;
    }

    public int noSkies() {
        int was = manySkies;
        manySkies = 0;
        return was;
    }

    public long loss(int rule) {
        if (!isRule(rule)) {
            return BAD;
        }
        course.startFrom(village);
        return lossByRow(rule, rule, plan.hands, plan.hands);
    }

    public long over(int rule, int n) {
        if (!isRule(rule) || n < 1 || n > MOST_OVER_HOURS) {
            return BAD;
        }
        course.startFrom(village);
        long together = lossOverAll(course, rule, n);
        for (int hour = 0; hour < n; hour++) {
            together /= ALL_TENTHS;
        }
        return together;
    }

    // ---- better

    public long best(int n, int i) {
        if (n < 1 || n > MOST_TRIED_HOURS || i < -1 || i >= n) {
            return BAD;
        }
        if (manySkies < n) {
            return NO;
        }
        course.startFrom(village);
        search.find(course, n);
        return i == -1 ? search.leastLoss : search.bestSpots.get(i);
    }

    public int first(int i) {
        if (!isRoof(i)) {
            return BAD;
        }
        if (!village.stands(i) || manySkies == 0) {
            return NO;
        }
        course.startFrom(village);
        course.told = 2 * i;
        long left = lossByRow(TOLD, DEEP, plan.hands, plan.hands);
        course.startFrom(village);
        course.told = 2 * i + 1;
        long right = lossByRow(TOLD, DEEP, plan.hands, plan.hands);
        return right < left ? 1 : 0;
    }

    public long more(int rule, int hands) {
        if (!isRule(rule) || hands < 0 || hands > 9) {
            return BAD;
        }
        course.startFrom(village);
        return lossByRow(rule, rule, plan.hands + hands, plan.hands + hands);
    }

    public int prop(int i) {
        int refusal = refusalOfProp(i);
        if (refusal != 0) {
            return refusal;
        }
        village.addProp(i);
        return village.props.get(i);
    }

    public long instead(int rule, int i) {
        if (!isRule(rule)) {
            return BAD;
        }
        int refusal = refusalOfProp(i);
        if (refusal != 0) {
            return refusal;
        }
        course.startFrom(village);
        course.addProp(i);
        return lossByRow(rule, rule, Math.max(plan.hands - 1, 0), plan.hands);
    }

    public long look(int i) {
        if (!isRoof(i)) {
            return BAD;
        }
        int all = village.chances(i);
        if (!village.stands(i) || manySkies == 0 || all == 0) {
            return NO;
        }
        course.startFrom(village);
        search.find(course, 1);
        long less = all * search.leastLoss;
        for (int k = 0; k < MOST_BEARINGS; k++) {
            int tenths = village.chanceOf(i, k);
            if (tenths > 0) {
                course.stays.set(i, 1 << k);
                search.find(course, 1);
                less -= tenths * search.leastLoss;
            }
        }
        return less / all;
    }

    public int rain(int n) {
        if (n < 1 || n > 9) {
            return BAD;
        }
        course.startFrom(village);
        for (int hour = 0; hour < n; hour++) {
            course.passHour(IDLE, RAINY_SKY, 0);
        }
        int bits = 0;
        for (int i = 0; i < plan.roofs; i++) {
            if (village.stands(i) && course.chancesGone(i) == 0) {
                bits |= 1 << i;
            }
        }
        return bits;
    }

    public int out(int i, int rule, int a, int b, int w) {
        if (!isRoof(i) || !isRule(rule) || a < 1 || b > 100 || a > b || w < 0 || w > 9) {
            return BAD;
        }
        if (!village.stands(i)) {
            return NO;
        }
        course.startFrom(village);
        for (int hour = 1; hour <= manySkies; hour++) {
            course.passHour(rule, skies.get(hour - 1), plan.hands);
            if (course.chancesGone(i) * b >= a * village.chances(i)) {
                return hour < w ? NONE : hour - w;
            }
        }
        return NONE;
    }

    public int night(int z, int rule, int n, int what) {
        if (z < 0 || z > 9999 || !isRule(rule) || n < 1 || n > 24 || what < 0 || what > 1) {
            return BAD;
        }
        course.startFrom(village);
        drawBearings(z);
        int gone = 0;
        for (int hour = 0; hour < n; hour++) {
            int sky = drawSky(z, course);
            course.passHour(rule, sky, plan.hands);
            gone |= course.dropAbove(borne);
        }
        return what == 0 ? gone : worthOf(gone);
    }

    public int keep() {
        if (kept >= MOST_KEPT) {
            return FULL;
        }
        keptAt(kept).copyFrom(village);
        kept++;
        return kept;
    }

    public int back() {
        if (kept <= 0) {
            return NO;
        }
        kept--;
        village.copyFrom(keptAt(kept));
        return kept;
    }

    public int count(int what) {
        switch (what) {
            case 0: return plan.roofs;
            case 1: return text.length();
            case 2: return manySkies;
            case 3: return village.creaks;
            case 4: return kept;
            default: return BAD;
        }
    }

    // ---- what the calls share

    private boolean isRoof(int i) {
        return i >= 0 && i < plan.roofs;
    }

    private static boolean isRule(int rule) {
        return rule >= DEEP && rule <= IDLE;
    }

    private static boolean isSky(int sky) {
        return sky >= 0 && sky < KINDS_OF_SKY;
    }

    /** 0: a prop can be put there. */
    private int refusalOfProp(int i) {
        if (!isRoof(i)) {
            return BAD;
        }
        if (!village.stands(i)) {
            return NO;
        }
        return village.props.get(i) >= MOST_PROPS ? FULL : 0;
    }

    private Village keptAt(int place) {
        return place == 0 ? keptFirst : keptSecond;
    }

    /** Each row's loss times its tenths, together. */
    private static long lossOverAll(Village there, int rule, int hours) {
        Village next = there.next;
        if (hours <= 0 || next == null) {
            return there.lossSoFar();
        }
        long together = 0;
        for (int k = 0; k < KINDS_OF_SKY; k++) {
            int tenths = there.plan.tenthsOfNext(there.sky, k);
            if (tenths > 0) {
                next.copyFrom(there);
                next.passHour(rule, k, there.plan.hands);
                together += tenths * lossOverAll(next, rule, hours - 1);
            }
        }
        return together;
    }

    /** Goes on from where the course has been started. */
    private long lossByRow(int firstRule, int rule, int firstHands, int hands) {
        for (int t = 0; t < manySkies; t++) {
            course.passHour(t == 0 ? firstRule : rule, skies.get(t), t == 0 ? firstHands : hands);
        }
        return course.lossSoFar();
    }

    private void drawBearings(int z) {
        for (int i = 0; i < plan.roofs; i++) {
            int all = village.chances(i);
            int drawn = all == 0 ? 0 : draw(z, i, 99) % all;
            borne.set(i, village.bearingAt(i, drawn));
        }
    }

    private int drawSky(int z, Village there) {
        int drawn = draw(z, there.hour, 98) % ALL_TENTHS;
        int soFar = 0;
        for (int k = 0; k < KINDS_OF_SKY; k++) {
            soFar += plan.tenthsOfNext(there.sky, k);
            if (drawn < soFar) {
                return k;
            }
        }
        return KINDS_OF_SKY - 1;
    }

    private static int draw(int z, int i, int k) {
        long x = 7919L * z + 6151L * i + 3571L * k + 1L;
        return (int) (((x * x) % 65521L) % 10000L);
    }

    private int worthOf(int bits) {
        int together = 0;
        for (int i = 0; i < plan.roofs; i++) {
            if ((bits >> i & 1) == 1) {
                together += plan.worthWithLives(i);
            }
        }
        return together;
    }

    /** A village to think in, and as many behind it as HOURS are branched over. */
    private static Village chainOf(Plan plan, int hours) {
        Village chain = null;
        for (int link = 0; link <= hours; link++) {
            chain = new Village(plan, chain);
        }
        return chain;
    }

    private static int greatestCommon(int a, int b) {
        int greater = Math.max(a, b);
        int less = Math.min(a, b);
        // Both are tenths, 10 at most: far fewer steps than this.
        for (int step = 0; step < 100 && less > 0; step++) {
            int rest = greater % less;
            greater = less;
            less = rest;
        }
        return greater;
    }

    /** A row of numbers whose every place is looked at before it is used. */
    private static final class Row {
        private final int[] cells;

        Row(int length) {
            cells = new int[Math.max(length, 0)];
        }

        int get(int i) {
            return i >= 0 && i < cells.length ? cells[i] : 0;
        }

        void set(int i, int value) {
            if (i >= 0 && i < cells.length) {
                cells[i] = value;
            }
        }

        void increase(int i, int by) {
            set(i, get(i) + by);
        }

        void fill(int value) {
            for (int i = 0; i < cells.length; i++) {
                cells[i] = value;
            }
        }

        void copyFrom(Row other) {
            for (int i = 0; i < cells.length && i < other.cells.length; i++) {
                cells[i] = other.cells[i];
            }
        }
    }

    /** THE TEXT. */
    private static final class Text {
        private final Row bytes = new Row(MOST_BYTES);
        private int length = 0;

        int length() {
            return length;
        }

        void append(int oneByte) {
            if (length < MOST_BYTES) {
                bytes.set(length, oneByte);
                length++;
            }
        }

        void clear() {
            length = 0;
        }

        /** -1 behind the end. */
        int byteAt(int place) {
            return place >= 0 && place < length ? bytes.get(place) : -1;
        }
    }

    /** Reads THE TEXT, ITEM by ITEM. */
    private static final class Reader {
        private final Text text;
        private final Row numbers = new Row(MOST_NUMBERS);
        private int place = 0;

        Reader(Text text) {
            this.text = text;
        }

        /** The place of the first ITEM that is at fault, or NONE. */
        int readInto(Plan plan) {
            plan.clear();
            place = 0;
            for (int items = 0; items < MOST_BYTES && place < text.length(); items++) {
                int start = place;
                if (!readItem(plan)) {
                    return start;
                }
            }
            return NONE;
        }

        private boolean readItem(Plan plan) {
            int letter = text.byteAt(place);
            int kind = letter < 0 ? -1 : LETTERS.indexOf((char) letter);
            if (kind < 0 || kind >= NUMBERS.length) {
                return false;
            }
            place++;
            int many = NUMBERS[kind];
            for (int j = 0; j < many; j++) {
                if (!readNumber(j) || !isInRange(kind, j) || !readSign(j == many - 1 ? ';' : ',')) {
                    return false;
                }
            }
            return plan.take(kind, numbers);
        }

        private boolean readNumber(int j) {
            int value = 0;
            int figures = 0;
            while (figures < 3 && isFigure(text.byteAt(place))) {
                value = 10 * value + text.byteAt(place) - '0';
                place++;
                figures++;
            }
            numbers.set(j, value);
            return figures > 0;
        }

        private static boolean isFigure(int oneByte) {
            return oneByte >= '0' && oneByte <= '9';
        }

        private boolean isInRange(int kind, int j) {
            int at = kind * MOST_NUMBERS + j;
            return at >= 0 && at < LEAST.length && at < MOST.length
                    && numbers.get(j) >= LEAST[at] && numbers.get(j) <= MOST[at];
        }

        private boolean readSign(int sign) {
            if (text.byteAt(place) != sign) {
                return false;
            }
            place++;
            return true;
        }
    }

    /** What a text tells; nothing of it changes as HOURS go by. */
    private static final class Plan {
        private int roofs;
        private final Row snow = new Row(MOST_SPOTS);
        private final Row uneven = new Row(MOST_ROOFS);
        private final Row slides = new Row(MOST_ROOFS);
        private final Row worth = new Row(MOST_ROOFS);
        private final Row thrown = new Row(MOST_ROOFS);
        private final Row people = new Row(MOST_ROOFS);
        private final Row manyBearings = new Row(MOST_ROOFS);
        private final Row bearings = new Row(MOST_ROOFS * MOST_BEARINGS);
        private final Row tenths = new Row(MOST_ROOFS * MOST_BEARINGS);
        private final Row fall = new Row(2 * KINDS_OF_SKY);
        private final Row water = new Row(KINDS_OF_SKY);
        private final Row chain = new Row(KINDS_OF_SKY * KINDS_OF_SKY);
        private int firstSky;
        private int hands;
        private int clears;
        private int gap;
        private int propAdds;
        private int propHours;
        private int life;

        void clear() {
            roofs = 0;
            people.fill(0);
            manyBearings.fill(0);
            bearings.fill(0);
            tenths.fill(0);
            fall.fill(0);
            water.fill(0);
            for (int k = 0; k < KINDS_OF_SKY; k++) {
                setChain(k, 4, 3, 3);
            }
            firstSky = 0;
            hands = 1;
            clears = 10;
            gap = 10;
            propAdds = 50;
            propHours = 3;
            life = 100;
        }

        /** As if r0,0,0,999,0,8; had been told. */
        void makeBare() {
            clear();
            addRoof(0, 0, 0, 999, 0, GROUND);
            addPlainBearings();
        }

        /** The numbers are in range; false: the ITEM does not fit those ahead of it. */
        boolean take(int kind, Row n) {
            switch (kind) {
                case ITEM_ROOF:
                    return addRoof(n.get(0), n.get(1), n.get(2), n.get(3), n.get(4), n.get(5));
                case ITEM_BEARS:
                    return addBearing(n.get(0), n.get(1), n.get(2));
                case ITEM_PEOPLE:
                    people.set(n.get(0), n.get(1));
                    return n.get(0) < roofs;
                case ITEM_CHAIN:
                    setChain(n.get(0), n.get(1), n.get(2), n.get(3));
                    return n.get(1) + n.get(2) + n.get(3) == ALL_TENTHS;
                default:
                    takeSetting(kind, n);
                    return true;
            }
        }

        private void takeSetting(int kind, Row n) {
            switch (kind) {
                case ITEM_SKY:
                    fall.set(2 * n.get(0), n.get(1));
                    fall.set(2 * n.get(0) + 1, n.get(2));
                    water.set(n.get(0), n.get(3));
                    break;
                case ITEM_FIRST_SKY:
                    firstSky = n.get(0);
                    break;
                case ITEM_HANDS:
                    hands = n.get(0);
                    clears = n.get(1);
                    break;
                case ITEM_GAP:
                    gap = n.get(0);
                    break;
                case ITEM_PROP:
                    propAdds = n.get(0);
                    propHours = n.get(1);
                    break;
                case ITEM_LIFE:
                    life = n.get(0);
                    break;
                default:
                    break;
            }
        }

        private boolean addRoof(int left, int right, int un, int slide, int value, int onto) {
            if (roofs >= MOST_ROOFS) {
                return false;
            }
            snow.set(2 * roofs, left);
            snow.set(2 * roofs + 1, right);
            uneven.set(roofs, un);
            slides.set(roofs, slide);
            worth.set(roofs, value);
            thrown.set(roofs, onto);
            roofs++;
            return true;
        }

        private boolean addBearing(int i, int bears, int by) {
            int many = manyBearings.get(i);
            if (i >= roofs || many >= MOST_BEARINGS) {
                return false;
            }
            bearings.set(i * MOST_BEARINGS + many, bears);
            tenths.set(i * MOST_BEARINGS + many, by);
            manyBearings.set(i, many + 1);
            return true;
        }

        private void setChain(int k, int a, int b, int c) {
            chain.set(KINDS_OF_SKY * k, a);
            chain.set(KINDS_OF_SKY * k + 1, b);
            chain.set(KINDS_OF_SKY * k + 2, c);
        }

        /** For ROOFS of which none was told. */
        void addPlainBearings() {
            for (int i = 0; i < roofs; i++) {
                if (manyBearings.get(i) == 0) {
                    addBearing(i, 500, ALL_TENTHS);
                }
            }
        }

        boolean fitsTogether() {
            for (int i = 0; i < roofs; i++) {
                int onto = thrown.get(i);
                if (onto == i || onto >= roofs && onto != GROUND) {
                    return false;
                }
                if (manyBearings.get(i) > 0 && tenthsOf(i, allBearings(i)) != ALL_TENTHS) {
                    return false;
                }
            }
            return roofs > 0;
        }

        int allBearings(int i) {
            return (1 << manyBearings.get(i)) - 1;
        }

        int tenthsOf(int i, int stays) {
            int together = 0;
            for (int k = 0; k < MOST_BEARINGS; k++) {
                if ((stays >> k & 1) == 1) {
                    together += tenths.get(i * MOST_BEARINGS + k);
                }
            }
            return together;
        }

        int tenthsOfNext(int sky, int next) {
            return chain.get(KINDS_OF_SKY * sky + next);
        }

        int worthWithLives(int i) {
            return worth.get(i) + life * people.get(i);
        }
    }

    /** The village as it is in an HOUR. */
    private static final class Village {
        private final Plan plan;
        private final Row snow = new Row(MOST_SPOTS);
        // Of each ROOF the B that stay, as bits.
        private final Row stays = new Row(MOST_ROOFS);
        // Of each ROOF the greatest PRESS stood; it is told, not beside a B: props take nothing off.
        private final Row stood = new Row(MOST_ROOFS);
        private final Row props = new Row(MOST_ROOFS);
        // HOURS until each prop is done.
        private final Row waits = new Row(MOST_ROOFS * MOST_PROPS);
        // Of each ROOF the greatest load since this village was started in thought.
        private final Row peak = new Row(MOST_ROOFS);
        // Takes the HOUR behind this one while several ways to go on are tried.
        private final Village next;
        private int standing = 0;
        private int creaks = 0;
        private int hour = 0;
        private int sky = 0;
        private int told = 0;

        Village(Plan plan, Village next) {
            this.plan = plan;
            this.next = next;
        }

        void copyFrom(Village other) {
            snow.copyFrom(other.snow);
            stays.copyFrom(other.stays);
            stood.copyFrom(other.stood);
            props.copyFrom(other.props);
            waits.copyFrom(other.waits);
            peak.copyFrom(other.peak);
            standing = other.standing;
            creaks = other.creaks;
            hour = other.hour;
            sky = other.sky;
            told = other.told;
        }

        /** As the other one is now, to be gone on with in thought. */
        void startFrom(Village other) {
            copyFrom(other);
            peak.fill(0);
        }

        /** HOUR 0, as the plan tells it. */
        void begin() {
            standing = (1 << plan.roofs) - 1;
            snow.copyFrom(plan.snow);
            for (int i = 0; i < MOST_ROOFS; i++) {
                stays.set(i, plan.allBearings(i));
            }
            stood.fill(0);
            props.fill(0);
            waits.fill(0);
            creaks = 0;
            hour = 0;
            sky = plan.firstSky;
            told = 0;
            feelAll();
        }

        boolean stands(int i) {
            return i >= 0 && i < plan.roofs && (standing >> i & 1) == 1;
        }

        // ---- what a ROOF bears

        int pressWith(int i, int moreLeft, int moreRight) {
            int left = snow.get(2 * i) + moreLeft;
            int right = snow.get(2 * i + 1) + moreRight;
            return left + right + plan.uneven.get(i) * Math.abs(left - right) / 10;
        }

        /** What the props add that are done. */
        int propped(int i) {
            int done = 0;
            for (int j = 0; j < props.get(i) && j < MOST_PROPS; j++) {
                if (waits.get(i * MOST_PROPS + j) == 0) {
                    done++;
                }
            }
            return done * plan.propAdds;
        }

        /** A PRESS as it counts beside a B. */
        int loadWith(int i, int moreLeft, int moreRight) {
            return pressWith(i, moreLeft, moreRight) - propped(i);
        }

        int load(int i) {
            return pressWith(i, 0, 0) - propped(i);
        }

        int chances(int i) {
            return plan.tenthsOf(i, stays.get(i));
        }

        int chanceOf(int i, int k) {
            return plan.tenthsOf(i, stays.get(i) & 1 << k);
        }

        int staysBelow(int i, int edge) {
            int below = 0;
            for (int k = 0; k < MOST_BEARINGS; k++) {
                if (plan.bearings.get(i * MOST_BEARINGS + k) < edge) {
                    below |= 1 << k;
                }
            }
            return stays.get(i) & below;
        }

        int staysFrom(int i, int edge) {
            return stays.get(i) & ~staysBelow(i, edge);
        }

        int chancesBelow(int i, int edge) {
            return plan.tenthsOf(i, staysBelow(i, edge));
        }

        /** The first B that stays by which the chances so far are above what was drawn. */
        int bearingAt(int i, int drawn) {
            int soFar = 0;
            for (int k = 0; k < MOST_BEARINGS; k++) {
                soFar += chanceOf(i, k);
                if (drawn < soFar) {
                    return plan.bearings.get(i * MOST_BEARINGS + k);
                }
            }
            return 0;
        }

        // ---- an HOUR

        /** The HOUR by a RULE; what it does to the ROOFS is not yet felt. */
        void passHour(int rule, int newSky, int hands) {
            for (int hand = 0; hand < hands; hand++) {
                clearAt(Rules.choose(this, rule, newSky));
            }
            passWeather(newSky);
        }

        /** The same with all hands at one spot. */
        void passHourAt(int spot, int newSky, int hands) {
            for (int hand = 0; hand < hands; hand++) {
                clearAt(spot);
            }
            passWeather(newSky);
        }

        private void passWeather(int newSky) {
            letFall(newSky);
            slide();
            bringPropsNearer();
            hour++;
            sky = newSky;
            for (int i = 0; i < plan.roofs; i++) {
                peak.set(i, Math.max(peak.get(i), load(i)));
            }
        }

        private void clearAt(int spot) {
            int cleared = Math.min(plan.clears, snow.get(spot));
            if (cleared <= 0) {
                return;
            }
            snow.increase(spot, -cleared);
            int onto = plan.thrown.get(spot / 2);
            if (stands(onto)) {
                snow.increase(2 * onto, cleared);
            }
        }

        private void letFall(int newSky) {
            for (int spot = 0; spot < 2 * plan.roofs; spot++) {
                if (stands(spot / 2)) {
                    int soaked = snow.get(spot) * plan.water.get(newSky) / 10;
                    snow.increase(spot, plan.fall.get(2 * newSky + spot % 2) + soaked);
                }
            }
        }

        private void slide() {
            for (int spot = 0; spot < 2 * plan.roofs; spot++) {
                snow.set(spot, Math.min(snow.get(spot), plan.slides.get(spot / 2)));
            }
        }

        private void bringPropsNearer() {
            for (int place = 0; place < MOST_ROOFS * MOST_PROPS; place++) {
                waits.set(place, Math.max(waits.get(place) - 1, 0));
            }
        }

        void addProp(int i) {
            int many = props.get(i);
            if (many < MOST_PROPS) {
                waits.set(i * MOST_PROPS + many, plan.propHours);
                props.set(i, many + 1);
            }
        }

        // ---- what a ROOF stands

        /** The ROOFS that are GONE by it, as bits. */
        int feelAll() {
            int gone = 0;
            for (int i = 0; i < plan.roofs; i++) {
                if (stands(i) && !feel(i)) {
                    drop(i);
                    gone |= 1 << i;
                }
            }
            return gone;
        }

        private boolean feel(int i) {
            int left = staysFrom(i, load(i));
            if (plan.tenthsOf(i, left) == 0) {
                return false;
            }
            stays.set(i, left);
            stood.set(i, Math.max(stood.get(i), pressWith(i, 0, 0)));
            return true;
        }

        private void drop(int i) {
            standing &= ~(1 << i);
            snow.set(2 * i, 0);
            snow.set(2 * i + 1, 0);
        }

        // ---- what is lost in thought

        int chancesGone(int i) {
            return chancesBelow(i, peak.get(i));
        }

        long lossSoFar() {
            long together = 0;
            for (int i = 0; i < plan.roofs; i++) {
                int all = chances(i);
                if (stands(i) && all > 0) {
                    together += plan.worthWithLives(i) * MILLION * chancesGone(i) / all;
                }
            }
            return together;
        }

        /** By what each ROOF bears: those that GO, as bits. */
        int dropAbove(Row borne) {
            int gone = 0;
            for (int i = 0; i < plan.roofs; i++) {
                if (stands(i) && load(i) > borne.get(i)) {
                    drop(i);
                    gone |= 1 << i;
                }
            }
            return gone;
        }
    }

    /** Where a hand clears. */
    private static final class Rules {
        private Rules() {
        }

        static int choose(Village there, int rule, int sky) {
            switch (rule) {
                case DEEP: return deepest(there);
                case WEAK: return deeperSide(there, weakest(there, sky));
                case PEOPLE: return deeperSide(there, fullest(there));
                case TOLD: return there.told;
                default: return NOWHERE;
            }
        }

        private static int deepest(Village there) {
            int chosen = NOWHERE;
            for (int spot = 0; spot < 2 * there.plan.roofs; spot++) {
                if (there.stands(spot / 2) && there.snow.get(spot) > there.snow.get(chosen)) {
                    chosen = spot;
                }
            }
            return chosen;
        }

        private static int weakest(Village there, int sky) {
            int left = there.plan.fall.get(2 * sky);
            int right = there.plan.fall.get(2 * sky + 1);
            int chosen = -1;
            int chosenBelow = 0;
            int chosenAll = 0;
            for (int i = 0; i < there.plan.roofs; i++) {
                if (isSnowy(there, i)) {
                    int below = there.chancesBelow(i, there.loadWith(i, left, right));
                    int all = there.chances(i);
                    if (chosen < 0 || below * chosenAll > chosenBelow * all) {
                        chosen = i;
                        chosenBelow = below;
                        chosenAll = all;
                    }
                }
            }
            return chosen;
        }

        private static int fullest(Village there) {
            int chosen = -1;
            for (int i = 0; i < there.plan.roofs; i++) {
                if (isSnowy(there, i)
                        && (chosen < 0 || there.plan.people.get(i) > there.plan.people.get(chosen))) {
                    chosen = i;
                }
            }
            return chosen;
        }

        private static boolean isSnowy(Village there, int i) {
            return there.stands(i) && there.snow.get(2 * i) + there.snow.get(2 * i + 1) > 0;
        }

        private static int deeperSide(Village there, int i) {
            if (i < 0) {
                return NOWHERE;
            }
            return there.snow.get(2 * i + 1) > there.snow.get(2 * i) ? 2 * i + 1 : 2 * i;
        }
    }

    /** Tries each row of spots; the first of the least loss stays. */
    private static final class Search {
        private final Row skies;
        private final Row triedSpots = new Row(MOST_TRIED_HOURS);
        private final Row bestSpots = new Row(MOST_TRIED_HOURS);
        private long leastLoss = 0;

        Search(Row skies) {
            this.skies = skies;
        }

        void find(Village from, int hours) {
            leastLoss = Long.MAX_VALUE;
            goOn(from, 0, hours);
        }

        // What is lost never gets less by an HOUR more: a row that is no better is left.
        private void goOn(Village from, int hour, int hours) {
            Village next = from.next;
            if (next == null || hour >= hours) {
                return;
            }
            for (int spot = 0; spot <= NOWHERE; spot++) {
                if (spot != NOWHERE && !from.stands(spot / 2)) {
                    continue;
                }
                next.copyFrom(from);
                next.passHourAt(spot, skies.get(hour), from.plan.hands);
                triedSpots.set(hour, spot);
                long loss = next.lossSoFar();
                if (loss < leastLoss && hour + 1 < hours) {
                    goOn(next, hour + 1, hours);
                } else if (loss < leastLoss) {
                    leastLoss = loss;
                    bestSpots.copyFrom(triedSpots);
                }
            }
        }
    }
}

/**
 * All that can be asked of an object, as one text: two objects that were led alike, but for a call
 * that is to change nothing, have the same. It uses the object up (some 300 calls of it).
 */
final class Probe {
    private final RoofsOfSnow x;
    private final StringBuilder seen = new StringBuilder();

    private Probe(RoofsOfSnow x) {
        this.x = x;
    }

    static String of(RoofsOfSnow x) {
        Probe p = new Probe(x);
        p.add("fault", x.fault());
        p.village();
        p.thoughts();
        int skies = x.noSkies();
        p.add("noSkies", skies);
        p.goOn();
        for (int left = x.back(); left >= 0; left = x.back()) {
            p.add("back", left);
            p.village();
            p.goOn();
        }
        p.add("lay", x.lay());
        p.village();
        p.add("wipe", x.wipe());
        return p.seen.toString();
    }

    private void add(String call, long answer) {
        seen.append(call).append(' ').append(answer).append('\n');
    }

    private void village() {
        for (int what = 0; what < 5; what++) {
            add("count " + what, x.count(what));
        }
        for (int what = 0; what < 4; what++) {
            add("now " + what, x.now(what));
        }
        int told = x.tell(0, 0);
        add("tell", told);
        x.tell(told / 2, told % 2);
        for (int i = 0; i < x.count(0); i++) {
            for (int what = 0; what < 8; what++) {
                add("roof " + i + " " + what, x.roof(i, what));
            }
            for (int k = 0; k < 4; k++) {
                add("thought " + i + " " + k, x.thought(i, k));
            }
        }
    }

    private void thoughts() {
        for (int rule = 0; rule < 5; rule++) {
            add("loss " + rule, x.loss(rule));
            add("over " + rule, x.over(rule, 2));
            add("night " + rule, x.night(77, rule, 5, 0));
        }
        add("best", x.best(1, 0));
        add("rain", x.rain(3));
        add("look", x.look(0));
    }

    /** By an HOUR props come nearer and the SKY falls. */
    private void goOn() {
        add("on", x.on(0, 1));
        for (int i = 0; i < x.count(0); i++) {
            add("then PRESS of " + i, x.roof(i, 2));
            add("then props of " + i, x.roof(i, 3));
            add("then stood of " + i, x.roof(i, 6));
        }
    }
}

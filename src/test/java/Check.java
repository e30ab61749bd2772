/** Counts answers that are as due and answers that are not; makes villages from texts. */
final class Check {
    private int right = 0;
    private int wrong = 0;

    void due(String call, long got, long want) {
        if (got == want) {
            right++;
        } else {
            wrong++;
            System.out.println(call + " answered " + got + ", due is " + want);
        }
    }

    /** Ends the program: with exit code 1 if an answer was wrong. */
    void end() {
        System.out.println(right + " answers as due, " + wrong + " not");
        if (wrong != 0 || right == 0) {
            System.exit(1);
        }
    }

    static void write(RoofsOfSnow x, String text) {
        for (int i = 0; i < text.length(); i += 8) {
            String part = text.substring(i, Math.min(i + 8, text.length()));
            long v = 0;
            for (int j = 0; j < part.length(); j++) {
                v = v << 8 | part.charAt(j);
            }
            x.write(part.length(), v);
        }
    }

    static RoofsOfSnow laid(String text) {
        RoofsOfSnow x = new RoofsOfSnow();
        write(x, text);
        if (x.lay() < 0) {
            throw new IllegalStateException("is not LAID: " + text);
        }
        return x;
    }

    static void skies(RoofsOfSnow x, int... kinds) {
        x.noSkies();
        for (int k : kinds) {
            x.sky(k);
        }
    }
}

/** What the tests share: due answers, texts written into an object, and how a test ends. */
final class Check {
    private static int wrong = 0;
    private static int asked = 0;

    private Check() {
    }

    static void due(String call, long got, long want) {
        asked++;
        if (got != want) {
            wrong++;
            System.out.println(call + " answered " + got + ", due is " + want);
        }
    }

    /** Puts a text in place of the one that the object has. */
    static void tell(BathNight x, String text) {
        x.wipe();
        for (int at = 0; at < text.length(); at += 8) {
            int n = Math.min(8, text.length() - at);
            long v = 0;
            for (int k = 0; k < n; k++) {
                v = v << 8 | text.charAt(at + k) & 0xff;
            }
            x.write(n, v);
        }
    }

    /** A new object in which a text without FAULT is LAID. */
    static BathNight laid(String text) {
        BathNight x = new BathNight();
        tell(x, text);
        if (x.lay() < 0) {
            wrong++;
            System.out.println("not laid: " + text + " (fault " + x.fault() + ")");
        }
        return x;
    }

    static void end() {
        System.out.println(wrong == 0 ? asked + " answers are as due" : wrong + " of " + asked + " answers are not as due");
        if (wrong != 0) {
            System.exit(1);
        }
    }
}

/** Tells each answer that is not the one that is due, and helps to put texts on a tape. */
final class Due {
    private static int wrong = 0;
    private static int asked = 0;
    private static String where = "";

    private Due() { }

    static void part(String name) {
        where = name;
    }

    static void is(String call, long got, long want) {
        asked++;
        if (got != want) {
            wrong++;
            if (wrong <= 50) {
                System.out.println(where + ": " + call + " answered " + got + ", due is " + want);
            }
        }
    }

    static void holds(String what, boolean so) {
        is(what, so ? 1 : 0, 1);
    }

    static int wrong() {
        return wrong;
    }

    static int asked() {
        return asked;
    }

    /** Puts bytes (characters 0 to 255) behind the tape. */
    static void put(WashLine x, String bytes) {
        int had = x.count(6);
        for (int i = 0; i < bytes.length(); i += 20) {
            int[] five = five(bytes, i);
            x.feed(five[0], five[1], five[2], five[3], five[4]);
        }
        x.end(had + bytes.length());
    }

    static int[] five(String bytes, int from) {
        int[] five = new int[5];
        for (int k = 0; k < 20; k++) {
            int b = from + k < bytes.length() ? bytes.charAt(from + k) & 255 : 0;
            five[k / 4] = five[k / 4] << 8 | b;
        }
        return five;
    }

    static int law(WashLine x, String text) {
        put(x, text);
        return x.law();
    }

    static int orders(WashLine x, String text) {
        put(x, text);
        return x.orders();
    }

    static void finish(String test) {
        System.out.println(test + ": " + asked + " answers, " + wrong + " not as due");
        if (wrong != 0) {
            System.exit(1);
        }
    }
}

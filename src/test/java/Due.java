/** What every test of the project uses: answers that are due, and texts put on the tape. */
final class Due {
    private static int asked = 0;
    private static int wrong = 0;
    private static String sentence = "";

    private Due() {
    }

    /** The sentence of the document that the answers behind this are about. */
    static void about(String words) {
        sentence = "[" + words + "] ";
    }

    static void is(String what, long got, long want) {
        asked++;
        if (got != want) {
            wrong++;
            System.out.println(sentence + what + " answered " + got + ", due is " + want);
        }
    }

    /** The same calls always give the same answers; there are too many of these to count them. */
    static void repeats(long got, long want) {
        if (got != want) {
            fails(sentence + "the same calls once more answered " + got + ", then due is " + want);
        }
    }

    static void fails(String what) {
        asked++;
        wrong++;
        System.out.println(what);
    }

    /** Puts bytes behind the tape, by twenties, and leaves out what was put too much. */
    static void type(Counted x, int... bytes) {
        put(x, x.count(6), bytes);
    }

    /** As type(), but with no call to look how many bytes the tape has: an object is used for 512 calls alone. */
    static void put(Counted x, int before, int... bytes) {
        for (int i = 0; i < bytes.length; i += 20) {
            x.feed(four(bytes, i), four(bytes, i + 4), four(bytes, i + 8), four(bytes, i + 12), four(bytes, i + 16));
        }
        x.end(before + bytes.length);
    }

    static void type(Counted x, String text) {
        type(x, text.chars().toArray());
    }

    static int law(Counted x, String text) {
        type(x, text);
        return x.law();
    }

    static int orders(Counted x, String text) {
        type(x, text);
        return x.orders();
    }

    static int four(int[] bytes, int at) {
        int number = 0;
        for (int i = at; i < at + 4; i++) {
            number = number << 8 | (i < bytes.length ? bytes[i] & 255 : ' ');
        }
        return number;
    }

    static void closes(String test) {
        System.out.println(test + ": " + asked + " answers, " + wrong + " not as due");
        if (asked == 0 || wrong != 0) {
            System.exit(1);
        }
    }
}

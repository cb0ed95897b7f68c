/** What the tests share: feeding a text, and telling an answer that is not the one due. */
final class Check {
    private static int asked = 0;
    private static int wrong = 0;

    private Check() {
    }

    static void due(String what, long got, long want) {
        asked++;
        if (got != want) {
            wrong++;
            if (wrong <= 40) {
                System.out.println(what + " answered " + got + ", due is " + want);
            }
        }
    }

    /** Puts a text behind the TAPE. */
    static void tape(SilenceMatch x, String text) {
        int before = x.count(12);
        byte[] bytes = new byte[(text.length() + 19) / 20 * 20];
        for (int i = 0; i < text.length(); i++) {
            bytes[i] = (byte) text.charAt(i);
        }
        for (int i = 0; i < bytes.length; i += 20) {
            x.feed(number(bytes, i), number(bytes, i + 4), number(bytes, i + 8), number(bytes, i + 12),
                    number(bytes, i + 16));
        }
        x.end(before + text.length());
    }

    static int number(byte[] bytes, int at) {
        return bytes[at] << 24 | (bytes[at + 1] & 255) << 16 | (bytes[at + 2] & 255) << 8 | bytes[at + 3] & 255;
    }

    static SilenceMatch green(String text, int lines) {
        SilenceMatch x = new SilenceMatch();
        tape(x, text);
        due("green() of " + text, x.green(), lines);
        return x;
    }

    static void finish(String name) {
        System.out.println(name + ": " + asked + " answers, " + wrong + " wrong");
        if (wrong != 0) {
            System.exit(1);
        }
    }
}

/** Puts texts on the tape of a PondStair as a user does: twenty bytes a call, then the end. */
final class Tape {
    private Tape() {
    }

    static int[] words(String text, int from) {
        int[] five = new int[5];
        for (int k = 0; k < 20; k++) {
            int sign = from + k < text.length() ? text.charAt(from + k) & 255 : 32;
            five[k / 4] = five[k / 4] << 8 | sign;
        }
        return five;
    }

    static void put(PondStair x, String text) {
        x.end(0);
        for (int from = 0; from < text.length(); from += 20) {
            int[] w = words(text, from);
            x.feed(w[0], w[1], w[2], w[3], w[4]);
        }
        x.end(text.length());
    }

    static int hill(PondStair x, String text) {
        put(x, text);
        return x.text(0, PondStair.NONE);
    }

    static int plan(PondStair x, String text) {
        put(x, text);
        return x.text(1, PondStair.NONE);
    }
}

/** Puts texts into the buffer as the face wants them. */
final class Texts {
    private Texts() {
    }

    /** Appends the text in steps of 20 bytes and cuts the blanks behind it. */
    static int put(BlackoutStart x, String text) {
        int length = x.truncate(0);
        for (int k = 0; k < text.length(); k += 20) {
            x.append(four(text, k), four(text, k + 4), four(text, k + 8), four(text, k + 12), four(text, k + 16));
            length = Math.min(text.length(), k + 20);
        }
        return x.truncate(length);
    }

    static int four(String text, int start) {
        int bytes = 0;
        for (int k = start; k < start + 4; k++) {
            bytes = bytes << 8 | (k < text.length() ? text.charAt(k) & 255 : ' ');
        }
        return bytes;
    }

    static int load(BlackoutStart x, String text) {
        put(x, text);
        return x.load();
    }

    static BlackoutStart loaded(String text) {
        BlackoutStart x = new BlackoutStart();
        load(x, text);
        return x;
    }
}

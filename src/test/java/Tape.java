/** Puts texts and points on the tape of a vault. */
final class Tape {
    private Tape() {
    }

    /** Behind what is on the tape, with as few calls as may be. */
    static void put(Vault vault, byte[] bytes) {
        int length = 0;
        for (int i = 0; i < bytes.length; i += 20) {
            length = vault.feed(word(bytes, i), word(bytes, i + 4), word(bytes, i + 8), word(bytes, i + 12), word(bytes, i + 16));
        }
        int tooMuch = (20 - bytes.length % 20) % 20;
        if (tooMuch > 0) {
            vault.end(length - tooMuch);
        }
    }

    static void put(Vault vault, String text) {
        put(vault, bytes(text));
    }

    static byte[] bytes(String text) {
        byte[] bytes = new byte[text.length()];
        for (int i = 0; i < bytes.length; i++) {
            bytes[i] = (byte) text.charAt(i);
        }
        return bytes;
    }

    /** Times and values in turn, eight bytes each. */
    static byte[] points(long... numbers) {
        byte[] bytes = new byte[8 * numbers.length];
        for (int i = 0; i < bytes.length; i++) {
            bytes[i] = (byte) (numbers[i / 8] >> 56 - i % 8 * 8);
        }
        return bytes;
    }

    static int word(byte[] bytes, int place) {
        int word = 0;
        for (int i = place; i < place + 4; i++) {
            word = word << 8 | (i < bytes.length ? bytes[i] & 255 : 0);
        }
        return word;
    }
}

/** Puts texts and bytes on the tape of an EvenOars. */
final class Tapes {
    private Tapes() {
    }

    static void put(EvenOars oars, String text) {
        int[] octets = new int[text.length()];
        for (int k = 0; k < octets.length; k++) {
            octets[k] = text.charAt(k);
        }
        put(oars, octets);
    }

    static void put(EvenOars oars, int[] octets) {
        Check.that("an empty tape", oars.end(0));
        for (int at = 0; at < octets.length; at += 20) {
            int[] five = new int[5];
            for (int k = 0; k < 20; k++) {
                int octet = at + k < octets.length ? octets[at + k] : 'z';
                five[k / 4] = five[k / 4] << 8 | (octet & 255);
            }
            Check.same("feed", oars.feed(five[0], five[1], five[2], five[3], five[4]), at + 20);
        }
        Check.that("end", oars.end(octets.length));
    }

    static int text(EvenOars oars, String text) {
        put(oars, text);
        return oars.text();
    }

    static EvenOars boat(String text) {
        EvenOars oars = new EvenOars();
        Check.that("a boat without a fault: " + text, text(oars, text) >= 0);
        return oars;
    }

    static long ask(EvenOars oars, String question) {
        put(oars, question);
        return oars.ask();
    }

    static int[] image(EvenOars oars) {
        int[] octets = new int[oars.image()];
        for (int k = 0; k < octets.length; k++) {
            octets[k] = oars.octet(k);
        }
        return octets;
    }

    /** The last byte set to what it is to be for the others. */
    static int[] sealed(int[] image) {
        int[] octets = image.clone();
        int check = 107;
        for (int k = 0; k < octets.length - 1; k++) {
            check = (5 * check + octets[k]) % 251;
        }
        octets[octets.length - 1] = check;
        return octets;
    }

    static boolean on(EvenOars oars, int[] octets) {
        put(oars, octets);
        return oars.on();
    }
}

import java.nio.charset.StandardCharsets;

/** Helps the tests: counts and prints what is not as due, and feeds whole texts. */
final class Check {
    private static int wrong = 0;
    private static String sentence = "";

    private Check() { }

    /** The sentence of the document, with its promise's number or its word in capitals, that is tested next. */
    static void about(String words) {
        sentence = words + " | ";
    }

    static void due(String call, long got, long want) {
        if (got != want) {
            wrong++;
            if (wrong < 50) {
                System.out.println(sentence + call + " answered " + got + ", due is " + want);
            }
        }
    }

    static void due(String call, boolean got, boolean want) {
        due(call, got ? 1 : 0, want ? 1 : 0);
    }

    static int wrong() {
        return wrong;
    }

    /** Ends a test's main method. */
    static void end() {
        System.out.println(wrong == 0 ? "all answers are as due" : wrong + " answers are not as due");
        if (wrong != 0) {
            System.exit(1);
        }
    }

    /** The eight signs of a text from a place on, as feed wants them; 0 behind its end. */
    static long eight(String text, int from) {
        byte[] bytes = text.getBytes(StandardCharsets.ISO_8859_1);
        long packed = 0;
        for (int i = from; i < from + 8; i++) {
            packed = packed << 8 | (i < bytes.length ? bytes[i] & 255 : 0);
        }
        return packed;
    }

    static int feed(ExtraGuest guest, String text) {
        int length = guest.count(7);
        for (int i = 0; i < text.length(); i += 24) {
            length = guest.feed(eight(text, i), eight(text, i + 8), eight(text, i + 16));
        }
        return length;
    }

    static int inn(ExtraGuest guest, String text) {
        feed(guest, text);
        return guest.inn();
    }

    static int morning(ExtraGuest guest, String text) {
        feed(guest, text);
        return guest.morning();
    }

    /** Reads a text with a FAULT of a kind at the sign |, which is left out; of kind 0: without a FAULT. */
    static void reads(ExtraGuest guest, boolean asInn, int kind, String marked) {
        int place = marked.indexOf('|');
        String text = place < 0 ? marked : marked.substring(0, place) + marked.substring(place + 1);
        due("feed " + marked, feed(guest, text), Math.min(1000, text.length()));
        due(marked, asInn ? guest.inn() : guest.morning(), kind == 0 ? 0 : kind + 16 * place);
        due("the tape is taken: " + marked, guest.count(7), 0);
    }

    /** A new object with an INN that has no FAULT. */
    static ExtraGuest at(String text) {
        ExtraGuest guest = new ExtraGuest();
        due("inn of " + text, inn(guest, text), 0);
        return guest;
    }
}

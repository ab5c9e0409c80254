/** INNS and objects that several tests use: GUESTS a to h, SIGNS p to u. */
final class Inns {
    private static final String[] KINDS = {"plain", "honest", "liar", "mad"};

    /** Three SIGNS part the eight GUESTS: p is the lowest bit of a 1, b 2 .. g 7, h 0. */
    private static final String PARTING = sign(0, 0, "a or c or e or g") + sign(1, 10, "b or c or f or g")
            + sign(2, 5, "d or e or f or g");

    private Inns() { }

    static String guest(int number, String kind, int room, int stays) {
        return "guest " + (char) ('a' + number) + " " + kind + " room " + room + " stays " + stays + ";";
    }

    static String sign(int number, int errs, String when) {
        return "sign " + (char) ('p' + number) + " errs " + errs + " when " + when + ";";
    }

    /** So many mad GUESTS in room 1 who stay 1. */
    static String guests(int many) {
        StringBuilder text = new StringBuilder();
        for (int i = 0; i < many; i++) {
            text.append(guest(i, "mad", 1, 1));
        }
        return text.toString();
    }

    /** GUESTS of such KINDS (p, h, l, m) in room 1 who stay 1. */
    static String kinds(String kinds) {
        StringBuilder text = new StringBuilder();
        for (int i = 0; i < kinds.length(); i++) {
            text.append(guest(i, KINDS["phlm".indexOf(kinds.charAt(i))], 1, 1));
        }
        return text.toString();
    }

    /** So many SIGNS that show in snow. */
    static String signs(int many) {
        StringBuilder text = new StringBuilder();
        for (int i = 0; i < many; i++) {
            text.append(sign(i, 1, "snow"));
        }
        return text.toString();
    }

    /** Six SIGNS with the same FORMULA. */
    static String sixSigns(String when) {
        StringBuilder text = new StringBuilder();
        for (int i = 0; i < 6; i++) {
            text.append(sign(i, 10, when));
        }
        return text.toString();
    }

    /** All pairs of so many GUESTS, who shun each other. */
    static String shuns(int many) {
        StringBuilder text = new StringBuilder();
        for (int one = 0; one < many; one++) {
            for (int two = one + 1; two < many; two++) {
                text.append("shun ").append((char) ('a' + one)).append(' ').append((char) ('a' + two)).append(';');
            }
        }
        return text.toString();
    }

    private static String eight() {
        int[] rooms = {1, 2, 12, 6, 7, 7, 3, 12};
        int[] stays = {1, 99, 9, 10, 5, 50, 20, 33};
        StringBuilder text = new StringBuilder();
        for (int i = 0; i < 8; i++) {
            text.append(guest(i, KINDS[i % 4], rooms[i], stays[i]));
        }
        return text + PARTING + sign(3, 1, "snow") + sign(4, 2, "odd and not low or alone") + sign(5, 9, "p and old or fog");
    }

    /** Eight GUESTS, six SIGNS, some who see some, some who shun some, a law: so that most answers differ. */
    static String rich() {
        return eight() + "sees a p q;sees b q;sees c p s;sees d r t u;sees f p q r;sees h s;"
                + "shun a b;shun a c;shun b c;shun e h;shun d f;bill door*nights-9;";
    }

    /** As much of everything as an INN can have: 8 GUESTS, 6 SIGNS, all see all and shun all, a law. */
    static String full() {
        StringBuilder text = new StringBuilder(eight());
        for (char guest = 'a'; guest < 'i'; guest++) {
            text.append("sees ").append(guest).append(" p q r s t u;");
        }
        return text + shuns(8) + "bill door*nights-9;";
    }

    /** An object with a rich INN, a MORNING, and something of all that is done by hand. */
    static ExtraGuest used() {
        ExtraGuest it = Check.at(rich());
        Check.due("a morning", Check.morning(it, "says b not c;shows p;says a f or g;weather fog;hides u;night;says c d;"), 0);
        it.hear(0, true);
        it.mark(3, false);
        it.answer(1, 2, false);
        it.weather(1);
        it.night();
        it.sign(0, true);
        it.hear(2, false);
        it.mark(0, false);
        it.answer(4, 0, true);
        it.night();
        it.hear(5, true);
        it.sign(2, true);
        it.answer(0, 4, false);
        Check.feed(it, "says a snow; hi");
        return it;
    }

    /** An object in which everything is full that can be. */
    static ExtraGuest brimming() {
        ExtraGuest it = Check.at(full());
        Check.due("24 lines", Check.morning(it, "night;".repeat(23) + "shows q;"), 0);
        for (int i = 0; i < 10; i++) {
            it.night();
        }
        for (int i = 0; i < 7; i++) {
            it.answer(3, i, true);
        }
        for (int i = 0; i < 8; i++) {
            it.hear(2 + i % 4, i % 3 == 0);
        }
        for (int i = 0; i < 4; i++) {
            it.mark(i, false);
        }
        Check.feed(it, "night;" + " ".repeat(994));
        return it;
    }
}

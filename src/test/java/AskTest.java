/** Promises 15 to 18: who, ask, fewest, tell. */
public final class AskTest {

    /** An INN of such KINDS (p, h, l, m). */
    private static ExtraGuest of(String kinds) {
        StringBuilder text = new StringBuilder();
        for (int i = 0; i < kinds.length(); i++) {
            char kind = kinds.charAt(i);
            text.append("guest ").append((char) ('a' + i))
                .append(kind == 'p' ? " plain" : kind == 'h' ? " honest" : kind == 'l' ? " liar" : " mad")
                .append(" room 1 stays 1;");
        }
        return Check.at(text.toString());
    }

    private static void asking(String kinds, int ask, int fewest) {
        ExtraGuest it = of(kinds);
        Check.due("who of " + kinds, it.who(), (1 << kinds.length()) - 1);
        Check.due("ask of " + kinds, it.ask(), ask);
        Check.due("fewest of " + kinds, it.fewest(), fewest);
        Check.due("asking changes nothing", it.left(), (int) ((1L << 4 * kinds.length()) - 1));
    }

    private static void questions() {
        asking("", -1, -1);
        asking("m", -1, 0);
        asking("p", -1, 0);
        asking("mm", -1, -1);
        asking("mmmmmmmm", -1, -1);
        asking("hh", 0, 1);
        asking("mh", 8, 1);
        asking("hm", 0, 1);
        // of two, a plain one and a liar answer to all with the same whoever it is
        asking("pp", -1, -1);
        asking("pl", -1, -1);
        asking("ll", -1, -1);
        asking("ppp", 1, 2);
        asking("lll", 1, 2);
        asking("pppp", 1, 2);
        asking("pmmm", 1, 2);
        asking("hmmm", 0, 3);
        asking("mpl", 8, 2);
        asking("mmlh", 16, 2);
        asking("hhhhhhhh", 0, 7);
        asking("pppppppp", 1, 4);
        asking("llllllll", 1, 4);
        // a single plain one tells at most a pair with himself
        asking("hhhhp", 32, 3);
    }

    private static void behindAnswers() {
        ExtraGuest it = of("pppp");
        it.answer(0, 1, true);
        Check.due("two are left", it.who(), 3);
        Check.due("0 about 2: he himself, or not", it.ask(), 2);
        Check.due("one question", it.fewest(), 1);
        it.answer(0, 2, false);
        Check.due("it is b", it.who(), 2);
        Check.due("no question", it.ask(), -1);
        Check.due("none is needed", it.fewest(), 0);
    }

    private static void telling() {
        ExtraGuest it = Check.at("guest a mad room 1 stays 1;guest b mad room 1 stays 1;guest c mad room 1 stays 1;"
                + "guest d mad room 1 stays 1;sign r errs 9 when snow;sign s errs 1 when a or b;"
                + "sign t errs 1 when a or c;sign u errs 1 when b or c;");
        Check.due("of pairs the least", it.tell(), 6);
        it.sign(1, true);
        Check.due("a or b: one is enough", it.tell(), 4);
        it.sign(2, true);
        Check.due("a", it.tell(), 0);
        ExtraGuest snow = Check.at("guest a mad room 1 stays 1;guest b mad room 1 stays 1;sign s errs 1 when a and snow;");
        Check.due("only in snow", snow.tell(), -1);
        Check.due("snow", snow.weather(1), 2);
        Check.due("now it tells", snow.tell(), 1);
        ExtraGuest six = Check.at("guest a mad room 1 stays 1;guest b mad room 1 stays 1;guest c mad room 1 stays 1;"
                + "guest d mad room 1 stays 1;guest e mad room 1 stays 1;guest f mad room 1 stays 1;guest g mad room 1 stays 1;"
                + "sign s errs 1 when a;sign t errs 1 when b;sign u errs 1 when c;"
                + "sign v errs 1 when d;sign w errs 1 when e;sign x errs 1 when f;");
        Check.due("all six", six.tell(), 63);
        Check.due("without signs", of("hh").tell(), -1);
        Check.due("of one", of("h").tell(), 0);
        ExtraGuest xor = Check.at("guest a mad room 1 stays 1;guest b mad room 1 stays 1;sign r errs 0 when fog;"
                + "sign s errs 1 when a and snow or b and not snow;sign t errs 1 when snow;");
        Check.due("two together tell", xor.tell(), 6);
    }

    public static void main(String[] args) {
        questions();
        behindAnswers();
        telling();
        Check.due("who of nobody", new ExtraGuest().who(), 0);
        Check.end();
    }
}

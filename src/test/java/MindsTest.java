/** Promises 19 to 22: what each one knows, of another one, by rounds, and what all know of all. */
public final class MindsTest {
    /** p parts a b, c d, e f; q parts a, b c, d e, f. */
    private static final String CHAIN = "guest a mad room 1 stays 1;guest b liar room 1 stays 1;"
            + "guest c plain room 1 stays 1;guest d mad room 1 stays 1;guest e mad room 1 stays 1;"
            + "guest f mad room 1 stays 1;sign p errs 1 when c or d;sign pp errs 1 when e or f;"
            + "sign q errs 1 when a or b or c;sign qq errs 1 when a or d or e;sees a p pp;sees b q qq;";

    private static void knowing() {
        ExtraGuest it = Check.at(CHAIN);
        int[] byPairs = {3, 3, 12, 12, 48, 48};
        int[] byOthers = {1, 6, 6, 24, 24, 32};
        for (int one = 0; one < 6; one++) {
            for (int weather = 0; weather < 4; weather++) {
                Check.due("knows a", it.knows(0, one * 4 + weather), byPairs[one]);
                Check.due("knows b", it.knows(1, one * 4 + weather), byOthers[one]);
                Check.due("knows c, who sees nothing", it.knows(2, one * 4 + weather), 63);
            }
        }
        Check.due("others", it.knows(6, 0), -1);
        Check.due("others", it.knows(-1, 0), -1);
        Check.due("others", it.knows(0, 24), -1);
        Check.due("others", it.knows(0, -1), -1);
        it.weather(2);
        Check.due("not left", it.knows(0, 0), -1);
        Check.due("left", it.knows(0, 2), 3);
        it.sign(2, true);
        Check.due("a, b, c are left", it.knows(2, 2), 7);
        Check.due("c is clear to a", it.knows(0, 10), 4);
        Check.due("b doubts", it.knows(1, 10), 6);
    }

    private static void byWeather() {
        ExtraGuest it = Check.at("guest a mad room 1 stays 1;guest b mad room 1 stays 1;sign s errs 0 when a and snow;"
                + "sign t errs 0 when b or fog;sees a s;sees b t s;");
        Check.due("it shows: a", it.knows(0, 1), 1);
        Check.due("it does not", it.knows(0, 0), 3);
        Check.due("neither: a", it.knows(1, 0), 1);
        Check.due("t: b, or a in the fog", it.knows(1, 2), 3);
        Check.due("a is sure of b in snow", it.sure(0, 1, 1), 1);
        Check.due("a is not in the fog", it.sure(0, 1, 2), 0);
        Check.due("nor when clear: it can be fog", it.sure(0, 1, 0), 0);
        Check.due("b sees neither: a knows only in snow", it.sure(1, 0, 0), 0);
        Check.due("b sees s", it.sure(1, 0, 1), 1);
    }

    private static void sureOf() {
        ExtraGuest it = Check.at(CHAIN);
        Check.due("a: b knows a, not b", it.sure(0, 1, 0), 0);
        Check.due("b knows it is a, a does not", it.sure(1, 0, 0), 0);
        Check.due("the same", it.sure(1, 1, 0), -1);
        Check.due("others", it.sure(6, 1, 0), -1);
        Check.due("others", it.sure(1, 6, 0), -1);
        Check.due("others", it.sure(-1, 1, 0), -1);
        Check.due("others", it.sure(1, -1, 0), -1);
        Check.due("others", it.sure(1, 0, 24), -1);
        it.sign(2, true);
        it.sign(3, true);
        Check.due("all know that it is a", it.sure(4, 5, 3), 1);
        Check.due("not left", it.sure(4, 5, 4), -1);
    }

    private static void saying() {
        ExtraGuest it = Check.at(CHAIN);
        int[] round = {1, 2, 3, 3, 2, 1};
        int[] who = {2, 1, 2, 2, 1, 2};
        for (int one = 0; one < 6; one++) {
            Check.due("rounds of " + one, it.rounds(one * 4 + 3, 0), round[one]);
            Check.due("who of " + one, it.rounds(one * 4 + 3, 1), who[one]);
        }
        Check.due("rounds leave all left", it.count(2), 24);
        Check.due("others", it.rounds(0, 2), -1);
        Check.due("others", it.rounds(0, -1), -1);
        Check.due("others", it.rounds(24, 0), -1);
        Check.due("others", it.rounds(-1, 1), -1);
        it.weather(0);
        Check.due("not left", it.rounds(1, 0), -1);
        Check.due("left", it.rounds(8, 0), 3);

        ExtraGuest three = Check.at("guest a mad room 1 stays 1;guest b mad room 1 stays 1;guest c mad room 1 stays 1;"
                + "sign s errs 0 when a;sign t errs 0 when c;sees a t;sees b s;");
        Check.due("who sees nothing knows by what is said, too", three.rounds(5, 1), 7);
        Check.due("in the second round", three.rounds(5, 0), 2);
        Check.due("b sees a", three.rounds(0, 1), 2);
        Check.due("a sees c", three.rounds(8, 1), 1);

        ExtraGuest never = Check.at("guest a mad room 1 stays 1;guest b mad room 1 stays 1;sign s errs 0 when snow;sees a s;");
        Check.due("nobody ever", never.rounds(0, 0), -1);
        Check.due("nobody ever", never.rounds(0, 1), -1);
        ExtraGuest alone = Check.at("guest a mad room 1 stays 1;");
        Check.due("one alone knows at once", alone.rounds(3, 0), 1);
        Check.due("one alone knows at once", alone.rounds(3, 1), 1);
    }

    private static void commonly() {
        String four = "guest a mad room 1 stays 1;guest b mad room 1 stays 1;guest c mad room 1 stays 1;"
                + "guest d mad room 1 stays 1;sign p errs 0 when a or b;sign q errs 0 when b or c;sees a p;sees b p;sees c p;";
        ExtraGuest parted = Check.at(four + "sees d p q;");
        Check.due("a and b", parted.common(0), 3);
        Check.due("a and b", parted.common(7), 3);
        Check.due("c and d", parted.common(8), 12);
        ExtraGuest led = Check.at(four + "sees d q;");
        Check.due("from one to the next", led.common(0), 15);
        ExtraGuest blind = Check.at(four);
        Check.due("d sees nothing", blind.common(15), 15);
        Check.due("others", blind.common(16), -1);
        Check.due("others", blind.common(-1), -1);
        blind.weather(1);
        Check.due("not left", blind.common(0), -1);
        blind.sign(0, true);
        Check.due("of what is left", blind.common(1), 3);
        ExtraGuest chain = Check.at(CHAIN.replace("sees b q qq;", "sees b q qq;sees c p pp;sees d p pp;sees e p pp;sees f p pp;"));
        Check.due("a long way", chain.common(0), 63);
        chain.sign(2, true);
        Check.due("a, b and c", chain.common(10), 7);
    }

    public static void main(String[] args) {
        knowing();
        byWeather();
        sureOf();
        saying();
        commonly();
        Check.end();
    }
}

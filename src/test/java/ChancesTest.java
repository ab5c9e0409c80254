/** Promises 23 to 28: hear, likely, odds, errors, hunt, same. */
public final class ChancesTest {
    private static final String TWO = "guest a honest room 1 stays 10;guest b honest room 2 stays 30;"
            + "sign s errs 2 when a;sign t errs 0 when snow;sign u errs 10 when b;sign v errs 5 when a and snow or b;";

    private static void odds(ExtraGuest it, String when, int likely, int... odds) {
        Check.due("likely, " + when, it.likely(), likely);
        for (int i = 0; i < odds.length; i++) {
            Check.due("odds of " + i + ", " + when, it.odds(i), odds[i]);
        }
    }

    private static void hearing() {
        ExtraGuest it = Check.at(TWO);
        odds(it, "nothing heard", 1, 250000, 750000);
        Check.due("hear", it.hear(0, true), true);
        odds(it, "s", 0, 571428, 428571);
        Check.due("hear", it.hear(0, false), true);
        odds(it, "s and not s", 1, 250000, 750000);
        Check.due("hear", it.hear(1, true), true);
        odds(it, "snow, surely", 1, 250000, 750000);
        Check.due("hearing leaves worlds", it.left(), 0xff);
        Check.due("only in snow", it.weather(2), 2);
        odds(it, "but it is fog", -1, -1, -1);
        it.undo();
        Check.due("hear", it.hear(2, true), true);
        odds(it, "u shows wrongly, always", 0, 1000000, 0);
        Check.due("four", it.count(5), 4);
        for (int i = 4; i < 8; i++) {
            Check.due("hear", it.hear(3, false), true);
        }
        Check.due("eight", it.hear(0, true), false);
        Check.due("eight", it.count(5), 8);
        Check.due("a night leaves what is heard", it.night(), 3);
        Check.due("eight", it.count(5), 8);
        Check.due("others", it.odds(2), -1);
        Check.due("others", it.odds(-1), -1);
        Check.due("no such sign", Check.at(TWO).hear(4, true), false);
        Check.due("no such sign", Check.at(TWO).hear(-1, true), false);
        Check.due("no sign", new ExtraGuest().hear(0, true), false);
    }

    private static void byWorlds() {
        ExtraGuest it = Check.at(TWO);
        it.sign(3, true);
        odds(it, "a in snow, b always", 1, 76923, 923076);
        it.weather(1);
        odds(it, "one world each", 1, 250000, 750000);
        it.answer(0, 0, true);
        odds(it, "a", 0, 1000000, 0);
        ExtraGuest equal = Check.at("guest a mad room 1 stays 7;guest b mad room 1 stays 7;guest c mad room 1 stays 3;");
        odds(equal, "of equal ones the first", 0, 411764, 411764, 176470);
        StringBuilder text = new StringBuilder();
        for (char c = 'a'; c < 'i'; c++) {
            text.append("guest ").append(c).append(" mad room 12 stays 99;");
        }
        ExtraGuest great = Check.at(text + "sign s errs 0 when snow or not snow;");
        for (int i = 0; i < 8; i++) {
            great.hear(0, true);
        }
        odds(great, "the greatest", 0, 125000, 125000, 125000, 125000, 125000, 125000, 125000, 125000);
        odds(new ExtraGuest(), "nobody", -1, -1);
    }

    private static void erring() {
        ExtraGuest it = Check.at(TWO);
        Check.due("s for a: shows though b", it.errors(0, 0, 0), 200000);
        Check.due("s for a: not though a", it.errors(0, 0, 1), 200000);
        Check.due("s for b: shows though a", it.errors(1, 0, 0), 800000);
        Check.due("s for b: not though b", it.errors(1, 0, 1), 800000);
        Check.due("snow for a", it.errors(0, 1, 0), 250000);
        Check.due("snow for a", it.errors(0, 1, 1), 750000);
        Check.due("u for b is always wrong", it.errors(1, 2, 0), 1000000);
        Check.due("u for b is always wrong", it.errors(1, 2, 1), 1000000);
        it.hear(1, true);
        Check.due("what is heard does not matter", it.errors(0, 1, 0), 250000);
        it.weather(1);
        Check.due("snow, always", it.errors(0, 1, 0), 1000000);
        Check.due("snow, always", it.errors(0, 1, 1), 0);
        it.answer(0, 0, true);
        Check.due("b can't be", it.errors(0, 0, 0), -1);
        Check.due("a can", it.errors(0, 0, 1), 200000);
        Check.due("of a", it.errors(1, 0, 0), 800000);
        Check.due("b can't be", it.errors(1, 0, 1), -1);
        for (int wrong : new int[] {-1, 2}) {
            Check.due("others", it.errors(wrong, 0, 0), -1);
            Check.due("others", it.errors(0, wrong * 2, 0), -1);
            Check.due("others", it.errors(0, 0, wrong), -1);
        }
        ExtraGuest three = Check.at("guest a mad room 1 stays 1;guest b mad room 1 stays 2;guest c mad room 1 stays 4;"
                + "sign s errs 3 when c or b and snow;");
        // b: 2 * (7 + 3 * 3), c: 4 * 4 * 7, by 10 * 4 * 6
        Check.due("by how long they stay", three.errors(0, 0, 0), 600000);
        Check.due("a is never so", three.errors(0, 0, 1), 700000);
        Check.due("b in snow alone", three.errors(1, 0, 1), 600000);
    }

    private static void hunt(ExtraGuest it, String when, int... due) {
        for (int i = 0; i < due.length; i++) {
            Check.due("hunt " + i + ", " + when, it.hunt(i), due[i]);
        }
        Check.due("hunt behind the last, " + when, it.hunt(due.length), -1);
    }

    private static void hunting() {
        ExtraGuest it = Check.at("guest a honest room 12 stays 5;guest b mad room 7 stays 5;guest c mad room 12 stays 5;"
                + "guest d mad room 1 stays 7;guest e mad room 3 stays 7;sign s errs 0 when d and snow or c;");
        // 10 in 12, 7 in 1, 7 in 3, 5 in 7: 10 + 14 + 21 + 20 of 29
        hunt(it, "all", 2241, 4, 12, 1, 3, 7);
        it.sign(0, true);
        // by guests, not by worlds: 7 in 1, 5 in 12
        hunt(it, "c and d", 1416, 2, 1, 12);
        it.answer(0, 2, true);
        hunt(it, "c", 1000, 1, 12);
        Check.due("others", it.hunt(-1), -1);
        Check.due("others", it.hunt(Integer.MAX_VALUE), -1);
        Check.due("others", it.hunt(Integer.MIN_VALUE), -1);
        ExtraGuest nobody = new ExtraGuest();
        Check.due("no guest", nobody.hunt(0), -1);
        Check.due("no guest", nobody.hunt(1), -1);
        Check.due("no guest", nobody.hunt(2), -1);
    }

    private static void sameOne() {
        ExtraGuest it = Check.at("guest a honest room 1 stays 5;guest b plain room 7 stays 5;guest c mad room 2 stays 5;"
                + "guest d mad room 1 stays 7;");
        Check.due("no night: those of now", it.same(0), 15);
        Check.due("some are left", it.same(1), -1);
        it.answer(0, 0, false);
        Check.due("b, c, d now", it.same(0), 14);
        it.night();
        it.answer(1, 2, true);
        it.night();
        Check.due("b, c", it.same(0), 6);
        Check.due("some are left", it.same(1), -1);
        it.answer(0, 2, true);
        Check.due("c", it.same(0), 4);
        it.night();
        it.answer(0, 3, true);
        Check.due("none", it.same(0), 0);
        Check.due("by now", it.same(1), 3);
        it.night();
        it.answer(0, 0, true);
        Check.due("by the last but one", it.same(1), 3);
        Check.due("none", it.same(0), 0);
        Check.due("others", it.same(2), -2);
        Check.due("others", it.same(-1), -2);
        ExtraGuest nobody = new ExtraGuest();
        Check.due("nobody", nobody.same(0), 0);
        Check.due("by now, which is the first", nobody.same(1), 0);
        ExtraGuest early = Check.at("guest a honest room 1 stays 5;guest b honest room 7 stays 5;");
        early.answer(0, 0, true);
        early.night();
        early.answer(0, 1, true);
        early.night();
        Check.due("by the second", early.same(1), 1);
        Check.due("none", early.same(0), 0);
        ExtraGuest ten = Check.at("guest a honest room 1 stays 5;guest b honest room 7 stays 5;");
        for (int i = 0; i < 9; i++) {
            ten.night();
        }
        ten.answer(0, 0, true);
        ten.night();
        ten.answer(0, 1, true);
        Check.due("by the eleventh", ten.same(1), 10);
    }

    public static void main(String[] args) {
        hearing();
        byWorlds();
        erring();
        hunting();
        sameOne();
        Check.end();
    }
}

/** Promises 7 to 12 and 33: what is done by hand and undone, and MARKS. */
public final class HandTest {
    private static final String KINDS = "guest p plain room 1 stays 1 ; guest h honest room 2 stays 1 ;"
            + "guest l liar room 3 stays 1 ; guest m mad room 4 stays 1 ; sign s errs 1 when snow and p or h ;";

    /** Who can be the ONE behind an answer to a first question; 0: it can't be. */
    private static void answer(int asked, int about, boolean yes, int who) {
        ExtraGuest it = Check.at(KINDS);
        String call = "answer " + asked + ", " + about + ", " + yes;
        Check.due(call, it.answer(asked, about, yes), who == 0 ? -1 : 4 * Integer.bitCount(who));
        Check.due(call + " who", it.who(), who == 0 ? 15 : who);
        Check.due(call + " can be undone", it.count(6), who == 0 ? 0 : 1);
        Check.due(call + " undone", it.undo(), who != 0);
        Check.due(call + " all are left", it.left(), 0xffff);
    }

    private static void answers() {
        answer(0, 0, true, 0);
        answer(0, 0, false, 15);
        answer(0, 1, true, 3);
        answer(0, 1, false, 12);
        answer(0, 3, true, 9);
        answer(0, 3, false, 6);
        answer(1, 0, true, 1);
        answer(1, 0, false, 14);
        answer(1, 1, true, 2);
        answer(1, 1, false, 13);
        answer(2, 2, true, 15);
        answer(2, 2, false, 0);
        answer(2, 0, true, 10);
        answer(2, 0, false, 5);
        for (int about = 0; about < 4; about++) {
            answer(3, about, true, 15);
            answer(3, about, false, 15);
        }
        ExtraGuest it = Check.at(KINDS);
        Check.due("one behind another", it.answer(1, 0, false), 12);
        Check.due("narrower", it.answer(0, 1, true), 4);
        Check.due("bob's worlds", it.left(), 0xf0);
        Check.due("it can't be", it.answer(1, 1, false), -1);
        Check.due("and all stays", it.left(), 0xf0);
        Check.due("others", it.answer(4, 0, true), -1);
        Check.due("others", it.answer(0, 4, true), -1);
        Check.due("others", it.answer(-1, 0, true), -1);
        Check.due("others", it.answer(0, -1, true), -1);
        Check.due("two were done", it.count(6), 2);
    }

    private static void signsAndWeathers() {
        ExtraGuest it = Check.at(KINDS);
        Check.due("it shows", it.sign(0, true), 5);
        Check.due("in these", it.left(), 0xf2);
        Check.due("it can't hide then", it.sign(0, false), -1);
        Check.due("a weather", it.weather(1), 2);
        Check.due("in these", it.left(), 0x22);
        Check.due("another one can't be", it.weather(2), -1);
        Check.due("the same can", it.weather(1), 2);
        Check.due("three were done", it.count(6), 3);
        Check.due("undo", it.undo() && it.undo(), true);
        Check.due("as before", it.left(), 0xf2);
        Check.due("undo", it.undo(), true);
        Check.due("it hides", it.sign(0, false), 11);
        Check.due("in these", it.left(), 0xff0d);
        Check.due("others", it.sign(1, true), -1);
        Check.due("others", it.sign(-1, false), -1);
        Check.due("others", it.weather(4), -1);
        Check.due("others", it.weather(-1), -1);
        for (int weather = 0; weather < 4; weather++) {
            ExtraGuest other = Check.at(KINDS);
            Check.due("weather " + weather, other.weather(weather), 4);
            Check.due("weather " + weather, other.left(), 0x1111 << weather);
        }
    }

    private static void nights() {
        ExtraGuest it = Check.at(KINDS);
        it.answer(1, 0, false);
        Check.due("who is kept", it.night(), 14);
        Check.due("all are left again", it.left(), 0xffff);
        Check.due("one ended", it.count(3), 1);
        for (int i = 1; i < 10; i++) {
            Check.due("night " + i, it.night(), 15);
        }
        Check.due("ten ended", it.count(3), 10);
        Check.due("no more", it.night(), -1);
        Check.due("ten ended", it.count(3), 10);
        Check.due("eleven can be undone", it.count(6), 11);
        Check.due("undo a night", it.undo(), true);
        Check.due("nine ended", it.count(3), 9);
        it.weather(0);
        it.answer(1, 1, true);
        Check.due("now there is room", it.night(), 2);
        Check.due("kept: 14, 15 .., 2", it.same(0), 2);
        Check.due("undo it", it.undo(), true);
        Check.due("the worlds of then", it.left(), 0x10);
        Check.due("no guest, no night", new ExtraGuest().night(), -1);
    }

    private static void undoing() {
        ExtraGuest it = Check.at(KINDS);
        Check.due("nothing yet", it.undo(), false);
        for (int i = 0; i < 3; i++) {
            it.night();
        }
        it.weather(3);
        for (int i = 0; i < 16; i++) {
            Check.due("sixteen at most", it.count(6), Math.min(16, 4 + i));
            it.answer(3, 0, i % 2 == 0);
        }
        it.answer(1, 0, true);
        for (int i = 0; i < 16; i++) {
            Check.due("the last sixteen", it.undo(), true);
        }
        Check.due("no more", it.undo(), false);
        Check.due("the first four and one stay", it.left(), 0x8888);
        Check.due("nights stay", it.count(3), 3);
        it.hear(0, true);
        Check.due("what is heard is not undone", it.undo(), false);
        it.weather(3);
        Check.due("undo", it.undo(), true);
        Check.due("it is heard yet", it.count(5), 1);
    }

    private static void marks() {
        ExtraGuest it = Check.at(KINDS);
        Check.due("nothing is on it", it.mark(0, true), false);
        it.weather(1);
        it.night();
        it.answer(1, 0, false);
        it.hear(0, false);
        Check.due("laid", it.mark(0, false), true);
        Check.due("laying leaves what can be undone", it.count(6), 3);
        it.night();
        it.hear(0, true);
        it.answer(1, 2, true);
        Check.due("another one", it.mark(3, false), true);
        Check.due("gone back to", it.mark(0, true), true);
        Check.due("left", it.left(), 0xfff0);
        Check.due("nights", it.count(3), 1);
        Check.due("heard", it.count(5), 1);
        Check.due("nothing can be undone", it.undo(), false);
        Check.due("it holds what was heard", it.odds(1), 1000000 / 19);
        Check.due("and forth", it.mark(3, true), true);
        Check.due("left", it.left(), 0xf00);
        Check.due("nights", it.count(3), 2);
        Check.due("who was kept", it.same(0), 4);
        Check.due("heard", it.count(5), 2);
        it.weather(0);
        Check.due("laid anew", it.mark(0, false), true);
        it.undo();
        Check.due("back", it.mark(0, true), true);
        Check.due("left", it.left(), 0x100);
        Check.due("again", it.mark(0, true), true);
        Check.due("another is not laid", it.mark(1, true), false);
        Check.due("none such", it.mark(4, false), false);
        Check.due("none such", it.mark(-1, false), false);
        Check.due("none such", it.mark(4, true), false);
        Check.due("a fault leaves them", Check.inn(it, "x"), 1);
        Check.due("there yet", it.mark(3, true), true);
        Check.due("an inn", Check.inn(it, KINDS), 0);
        Check.due("takes them", it.mark(3, true), false);
        ExtraGuest fresh = new ExtraGuest();
        Check.due("without an inn", fresh.mark(2, false), true);
        Check.due("back to nothing", fresh.mark(2, true), true);
        Check.due("nothing is left", fresh.left(), 0);
    }

    /** What came behind a MARK is written where that of the MARK stood; the MARK must hold its own. */
    private static void marksHoldAll() {
        String text = "guest a honest room 1 stays 1;guest b honest room 2 stays 1;guest c mad room 3 stays 1;"
                + "sign s errs 1 when a;sign t errs 2 when b;";
        for (int at = 0; at < 10; at++) {
            ExtraGuest it = Check.at(text);
            it.mark(1, false);
            for (int i = 0; i < 10; i++) {
                it.answer(0, i == at ? 1 : 2, i == at);
                it.night();
            }
            it.mark(0, false);
            it.mark(1, true);
            for (int i = 0; i < 10; i++) {
                it.answer(0, 0, true);
                it.night();
            }
            Check.due("only a", it.same(0), 1);
            Check.due("back", it.mark(0, true), true);
            Check.due("only b, by night " + at, it.same(0), 2);
            Check.due("ten nights", it.count(3), 10);
        }
        for (int at = 0; at < 8; at++) {
            ExtraGuest it = Check.at(text);
            it.mark(1, false);
            for (int i = 0; i < 8; i++) {
                it.hear(i == at ? 1 : 0, i == at);
            }
            int odds = it.odds(1);
            it.mark(0, false);
            it.mark(1, true);
            Check.due("nothing is heard", it.odds(1), 333333);
            for (int i = 0; i < 8; i++) {
                it.hear(0, true);
            }
            Check.due("a by far", it.likely(), 0);
            Check.due("back", it.mark(0, true), true);
            Check.due("b, as heard at " + at, it.odds(1), odds);
            Check.due("b", it.likely(), 1);
            it.mark(1, true);
            for (int i = 0; i < 8; i++) {
                it.hear(1, false);
            }
            it.mark(0, true);
            Check.due("b again, as heard at " + at, it.odds(1), odds);
        }
    }

    public static void main(String[] args) {
        answers();
        signsAndWeathers();
        nights();
        undoing();
        marks();
        marksHoldAll();
        Check.end();
    }
}

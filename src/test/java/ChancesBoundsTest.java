/** Bounds of HEARD, ODDS, LIKELY, ERRORS, HUNT and SAME ("Terms", part 3), and of promises 23 to 28. */
public final class ChancesBoundsTest {
    private static final int[] FAR = {Integer.MIN_VALUE, -65536, -33, -2, 33, 65536, Integer.MAX_VALUE};

    private static void eightAreHeardAtMost() {
        Check.about("HEARD: 8 at most; promise 23, false: 8 are HEARD");
        ExtraGuest it = Check.at(Inns.guests(1) + Inns.signs(6));
        for (int i = 0; i < 8; i++) {
            Check.due("heard", it.count(5), i);
            Check.due("hear", it.hear(i % 6, i % 2 == 0), true);
        }
        for (int i = 0; i < 6; i++) {
            Check.due("a ninth", it.hear(i, true), false);
            Check.due("a ninth", it.hear(i, false), false);
        }
        Check.due("heard", it.count(5), 8);
        Check.about("Promise 23, false: others");
        for (int many = 0; many <= 6; many++) {
            ExtraGuest other = Check.at(Inns.guests(1) + Inns.signs(many));
            for (boolean shown : new boolean[] {true, false}) {
                Check.due("hear -1", other.hear(-1, shown), false);
                Check.due("hear " + many, other.hear(many, shown), false);
                for (int far : FAR) {
                    Check.due("hear " + far, other.hear(far, shown), false);
                }
                if (many > 0) {
                    Check.due("the last one", other.hear(many - 1, shown), true);
                }
            }
            Check.due("heard", other.count(5), many > 0 ? 2 : 0);
        }
        Check.due("without guests it can be heard", Check.at(Inns.signs(1)).hear(0, true), true);
        Check.due("without an inn not", new ExtraGuest().hear(0, true), false);
    }

    private static void odds(ExtraGuest it, String when, int likely, int... odds) {
        Check.due("likely, " + when, it.likely(), likely);
        for (int i = 0; i < odds.length; i++) {
            Check.due("odds of " + i + ", " + when, it.odds(i), odds[i]);
        }
        Check.due("odds behind the last, " + when, it.odds(odds.length), -1);
        Check.due("odds of -1, " + when, it.odds(-1), -1);
    }

    private static void errsAtTheirEdges() {
        Check.about("ODDS: times ten less errs if it is so there, else errs");
        for (int errs = 0; errs <= 10; errs++) {
            ExtraGuest shown = Check.at(Inns.guests(2) + Inns.sign(0, errs, "a"));
            shown.hear(0, true);
            odds(shown, "shown, errs " + errs, errs > 5 ? 1 : 0, (10 - errs) * 100000, errs * 100000);
            ExtraGuest hidden = Check.at(Inns.guests(2) + Inns.sign(0, errs, "a"));
            hidden.hear(0, false);
            odds(hidden, "not shown, errs " + errs, errs < 5 ? 1 : 0, errs * 100000, (10 - errs) * 100000);
        }
        for (int sign = 0; sign < 6; sign++) {
            StringBuilder text = new StringBuilder(Inns.guests(6));
            for (int i = 0; i < 6; i++) {
                text.append(Inns.sign(i, i, "" + (char) ('a' + i)));
            }
            ExtraGuest it = Check.at(text.toString());
            it.hear(sign, true);
            // of 10 - errs and five times errs
            Check.due("of the sign " + sign, it.odds(sign), (10 - sign) * 1000000 / (10 + 4 * sign));
        }
        Check.about("ODDS: all are 0; promise 24 and 25, NONE");
        for (int errs : new int[] {0, 10}) {
            ExtraGuest it = Check.at(Inns.guests(2) + Inns.sign(0, errs, "a"));
            it.hear(0, true);
            it.hear(0, false);
            odds(it, "so and not so", -1, -1, -1);
        }
        ExtraGuest it = Check.at(Inns.kinds("hm") + Inns.sign(0, 0, "a"));
        it.hear(0, true);
        it.answer(0, 1, true);
        odds(it, "heard is a, left is b", -1, -1, -1);
        it.undo();
        odds(it, "undone", 0, 1000000, 0);
        odds(new ExtraGuest(), "nobody", -1);
        odds(Check.at(Inns.signs(6)), "nobody", -1);
    }

    private static void chancesAreCut() {
        Check.about("ODDS: the chance, in millionths, cut; LIKELY: of equal ones the first");
        odds(Check.at(Inns.guests(3)), "thirds", 0, 333333, 333333, 333333);
        odds(Check.at(Inns.guest(0, "mad", 1, 1) + Inns.guest(1, "mad", 1, 2)), "third and two thirds", 1, 333333, 666666);
        odds(Check.at(Inns.guests(7)), "sevenths", 0, 142857, 142857, 142857, 142857, 142857, 142857, 142857);
        odds(Check.at(Inns.guest(0, "mad", 1, 98) + Inns.guest(1, "mad", 1, 99)), "the last", 1, 497461, 502538);
        odds(Check.at(Inns.guest(0, "mad", 1, 99) + Inns.guest(1, "mad", 1, 98) + Inns.guest(2, "mad", 1, 99)), "equal ones",
                0, 334459, 331081, 334459);
        Check.about("ODDS: at their greatest and their least");
        String great = "";
        for (int i = 0; i < 8; i++) {
            great += Inns.guest(i, "mad", 12, 99);
        }
        ExtraGuest it = Check.at(great + Inns.sign(0, 0, "a or not a") + Inns.sign(1, 10, "a and not a") + Inns.sign(2, 9, "h"));
        for (int i = 0; i < 4; i++) {
            it.hear(0, true);
            it.hear(1, true);
        }
        odds(it, "ten to the eighth", 0, 125000, 125000, 125000, 125000, 125000, 125000, 125000, 125000);
        ExtraGuest least = Check.at(Inns.guest(0, "mad", 1, 1) + Inns.guest(1, "mad", 1, 99) + Inns.sign(0, 1, "a"));
        int[] first = {10000, 1121, 124, 13, 1, 0, 0, 0, 0};
        for (int i = 0; i < 9; i++) {
            odds(least, i + " times not", 1, first[i], 1000000 - first[i] - (i == 0 ? 0 : 1));
            least.hear(0, false);
        }
    }

    private static void likelyAmongAll() {
        Check.about("LIKELY: the GUEST whose WORLDS have the most together");
        for (int best = 0; best < 8; best++) {
            String text = "";
            for (int i = 0; i < 8; i++) {
                text += Inns.guest(i, "mad", 1, i == best ? 2 : 1);
            }
            Check.due("the " + best + "th", Check.at(text).likely(), best);
        }
        ExtraGuest it = Check.at(Inns.guest(0, "mad", 1, 3) + Inns.guest(1, "mad", 1, 1) + Inns.sign(0, 0, "b or a and snow"));
        it.sign(0, true);
        odds(it, "a once, b four times", 1, 428571, 571428);
        ExtraGuest one = Check.at(Inns.guests(8) + Inns.sign(0, 0, "h and wind"));
        one.sign(0, true);
        odds(one, "the last world alone, the least that can be", 7, 0, 0, 0, 0, 0, 0, 0, 1000000);
    }

    private static void errorsAtTheirEdges() {
        Check.about("ERRORS: in millionths, cut, by errs 0 to 10");
        for (int errs = 0; errs <= 10; errs++) {
            ExtraGuest it = Check.at(Inns.guests(2) + Inns.sign(0, errs, "a"));
            Check.due("shows though not a, errs " + errs, it.errors(0, 0, 0), errs * 100000);
            Check.due("not though a, errs " + errs, it.errors(0, 0, 1), errs * 100000);
            Check.due("shows though not b, errs " + errs, it.errors(1, 0, 0), 1000000 - errs * 100000);
            Check.due("not though b, errs " + errs, it.errors(1, 0, 1), 1000000 - errs * 100000);
        }
        ExtraGuest cut = Check.at(Inns.guest(0, "mad", 1, 1) + Inns.guest(1, "mad", 1, 2) + Inns.guest(2, "mad", 1, 1)
                + Inns.sign(0, 0, "a"));
        Check.due("a third", cut.errors(1, 0, 0), 500000);
        Check.due("a third", cut.errors(2, 0, 0), 333333);
        Check.about("Promise 26, NONE: no such WORLD is LEFT");
        ExtraGuest alone = Check.at(Inns.guests(1) + Inns.signs(1));
        Check.due("he alone: never not he", alone.errors(0, 0, 0), -1);
        Check.due("he alone, one in four snow", alone.errors(0, 0, 1), 700000);
        ExtraGuest gone = Check.at(Inns.kinds("hm") + Inns.signs(1));
        gone.answer(0, 1, true);
        Check.due("a can't be", gone.errors(0, 0, 1), -1);
        Check.due("not a can", gone.errors(0, 0, 0), 300000);
        Check.due("b can", gone.errors(1, 0, 1), 700000);
        Check.due("not b can't", gone.errors(1, 0, 0), -1);
        Check.about("Promise 26, NONE: others");
        for (int many = 1; many <= 8; many++) {
            int signs = Math.min(6, many);
            ExtraGuest it = Check.at(Inns.guests(many) + Inns.signs(signs));
            Check.due("the last of all", it.errors(many - 1, signs - 1, 1), 700000);
            for (int what = 0; what < 2; what++) {
                Check.due("guest -1", it.errors(-1, 0, what), -1);
                Check.due("guest " + many, it.errors(many, 0, what), -1);
                Check.due("sign -1", it.errors(0, -1, what), -1);
                Check.due("sign " + signs, it.errors(0, signs, what), -1);
            }
            for (int far : FAR) {
                Check.due("guest " + far, it.errors(far, 0, 1), -1);
                Check.due("sign " + far, it.errors(0, far, 1), -1);
                Check.due("what " + far, it.errors(0, 0, far), -1);
            }
            Check.due("what -1", it.errors(0, 0, -1), -1);
            Check.due("what 2", it.errors(0, 0, 2), -1);
        }
        Check.due("without guests", Check.at(Inns.signs(1)).errors(0, 0, 0), -1);
        Check.due("without signs", Check.at(Inns.guests(2)).errors(0, 0, 0), -1);
    }

    private static void hunt(String when, ExtraGuest it, int... due) {
        for (int i = 0; i < due.length; i++) {
            Check.due("hunt " + i + ", " + when, it.hunt(i), due[i]);
        }
        for (int i : new int[] {-1, due.length, due.length + 1, Integer.MIN_VALUE, Integer.MAX_VALUE}) {
            Check.due("hunt " + i + ", " + when, it.hunt(i), -1);
        }
    }

    private static void huntAtItsEdges() {
        Check.about("HUNT: rooms of those that can be the ONE; promise 27, NONE: others, no GUEST");
        hunt("no inn", new ExtraGuest());
        hunt("no guest", Check.at(Inns.signs(1)));
        hunt("one", Check.at(Inns.guest(0, "mad", 12, 99)), 1000, 1, 12);
        hunt("one who stays 1", Check.at(Inns.guest(0, "mad", 1, 1)), 1000, 1, 1);
        hunt("eight in one room", Check.at(Inns.guests(8)), 1000, 1, 1);
        Check.about("HUNT: of equal ones the least room; the mean in thousandths, cut");
        String rooms = "";
        for (int i = 0; i < 8; i++) {
            rooms += Inns.guest(i, "mad", 12 - i, 99);
        }
        hunt("eight rooms", Check.at(rooms), 4500, 8, 5, 6, 7, 8, 9, 10, 11, 12);
        hunt("the ends", Check.at(Inns.guest(0, "mad", 12, 1) + Inns.guest(1, "mad", 1, 1)), 1500, 2, 1, 12);
        hunt("a third", Check.at(Inns.guest(0, "mad", 12, 2) + Inns.guest(1, "mad", 1, 1)), 1333, 2, 12, 1);
        Check.about("HUNT: those of most together first");
        hunt("together", Check.at(Inns.guest(0, "mad", 3, 50) + Inns.guest(1, "mad", 12, 25) + Inns.guest(2, "mad", 12, 26)),
                1495, 2, 12, 3);
        hunt("as many together", Check.at(Inns.guest(0, "mad", 3, 51) + Inns.guest(1, "mad", 12, 25)
                + Inns.guest(2, "mad", 12, 26)), 1500, 2, 3, 12);
        ExtraGuest it = Check.at(Inns.guest(0, "honest", 1, 9) + Inns.guest(1, "mad", 2, 8) + Inns.guest(2, "mad", 3, 7));
        it.answer(0, 0, false);
        hunt("without a", it, 1466, 2, 2, 3);
    }

    private static void sameAtItsEdges() {
        Check.about("SAME: GUESTS that were kept of all nights that ended, and can be the ONE now");
        ExtraGuest it = Check.at(Inns.kinds("hmm"));
        Check.due("no night", it.same(0), 7);
        Check.due("some are left", it.same(1), -1);
        it.answer(0, 0, true);
        Check.due("now alone", it.same(0), 1);
        it.night();
        it.answer(0, 0, false);
        Check.due("not now", it.same(0), 0);
        Check.due("the one now being the last", it.same(1), 1);
        it.undo();
        for (int i = 1; i < 10; i++) {
            Check.due("of all nights", it.same(0), 1);
            it.night();
        }
        Check.due("ten nights", it.same(0), 1);
        it.answer(0, 2, true);
        Check.due("not now", it.same(0), 0);
        Check.due("the eleventh", it.same(1), 10);
        Check.about("SAME: the first night (from 0) by which none is left");
        for (int night = 1; night < 10; night++) {
            ExtraGuest other = Check.at(Inns.kinds("hmm"));
            for (int i = 0; i < 10; i++) {
                other.answer(0, i < night ? 1 : 2, true);
                other.night();
            }
            Check.due("by night " + night, other.same(1), night);
            Check.due("none", other.same(0), 0);
        }
        Check.due("nobody, no night", new ExtraGuest().same(1), 0);
        Check.due("nobody", new ExtraGuest().same(0), 0);
        Check.about("Promise 28, -2: others");
        for (int what : new int[] {-1, 2, -2, 3, Integer.MIN_VALUE, Integer.MAX_VALUE}) {
            Check.due("same " + what, it.same(what), -2);
            Check.due("same " + what, new ExtraGuest().same(what), -2);
        }
    }

    public static void main(String[] args) {
        eightAreHeardAtMost();
        errsAtTheirEdges();
        chancesAreCut();
        likelyAmongAll();
        errorsAtTheirEdges();
        huntAtItsEdges();
        sameAtItsEdges();
        Check.end();
    }
}

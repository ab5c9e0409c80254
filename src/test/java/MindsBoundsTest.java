/** Bounds of WHO, ASK, FEWEST, TELL, KNOWS, SURE OF, ROUNDS, COMMON ("Terms", part 3), and of promises 15 to 22. */
public final class MindsBoundsTest {
    private static final int[] FAR = {Integer.MIN_VALUE, -65536, -33, -2, 33, 65536, Integer.MAX_VALUE};

    /** Pairs a b, c d, e f, g h by p, q, whom a sees; a, b c, d e, f g h by r, s, whom b sees. */
    private static final String CHAIN = Inns.guests(8) + Inns.sign(0, 0, "c or d or g or h") + Inns.sign(1, 0, "e or f or g or h")
            + Inns.sign(2, 0, "b or c or f or g or h") + Inns.sign(3, 0, "d or e or f or g or h") + "sees a p q;sees b r s;";

    private static ExtraGuest of(String kinds) {
        return Check.at(Inns.kinds(kinds));
    }

    private static void whoIsInSomeWorldLeft() {
        Check.about("Promise 15: GUESTS that are the ONE in some WORLD LEFT");
        Check.due("without an inn", new ExtraGuest().who(), 0);
        Check.due("without guests", Check.at(Inns.signs(6)).who(), 0);
        for (int many = 1; many <= 8; many++) {
            ExtraGuest it = Check.at(Inns.guests(many) + Inns.sign(0, 0, (char) ('a' + many - 1) + " and wind"));
            Check.due("all of " + many, it.who(), (1 << many) - 1);
            it.sign(0, true);
            Check.due("one world of the last", it.who(), 1 << many - 1);
            it.undo();
            it.sign(0, false);
            Check.due("three worlds of the last are enough", it.who(), (1 << many) - 1);
        }
    }

    private static void askIsLessThanNow() {
        Check.about("ASK: if that is less than now; promise 16, NONE: none does");
        Check.due("without an inn", new ExtraGuest().ask(), -1);
        Check.due("one alone", of("h").ask(), -1);
        Check.due("a mad one's answers tell nothing", of("mmmmmmmm").ask(), -1);
        Check.due("two plain ones tell nothing", of("pp").ask(), -1);
        Check.due("two of whom one is honest", of("mh").ask(), 8);
        ExtraGuest it = of("hhh");
        it.answer(0, 0, true);
        Check.due("he is sure", it.ask(), -1);
        Check.about("ASK: of equal ones the first (asked, then about)");
        Check.due("honest ones", of("hhhhhhhh").ask(), 0);
        Check.due("the last alone tells", of("mmmmmmmh").ask(), 56);
        // a plain one's answers part two and six, an honest one's one and seven
        Check.due("the better, though a later one", of("hhhhhhhp").ask(), 56);
        Check.due("about himself it tells nothing", of("pmmmmmmm").ask(), 1);
        Check.due("about himself neither, a liar", of("lmmmmmmm").ask(), 1);
        ExtraGuest last = Check.at(Inns.kinds("mmmmmmmh") + Inns.sign(0, 0, "g or h"));
        last.sign(0, true);
        Check.due("the greatest answer", last.ask(), 62);
    }

    private static void fewestQuestionsAreEnough() {
        Check.about("FEWEST: at worst, whoever he is of WHO; promise 17, NONE: no questions are enough, nobody can be");
        Check.due("nobody", new ExtraGuest().fewest(), -1);
        Check.due("nobody", Check.at(Inns.signs(1)).fewest(), -1);
        Check.due("none are enough", of("mm").fewest(), -1);
        Check.due("none are enough", of("pp").fewest(), -1);
        Check.due("one plain one of eight", of("pmmmmmmm").fewest(), 6);
        Check.due("mad ones alone, eight", of("mmmmmmmm").fewest(), -1);
        String kinds = "h";
        for (int many = 1; many <= 8; many++) {
            Check.due("one honest one of " + many, of(kinds).fewest(), many - 1);
            kinds += "m";
        }
        Check.due("eight plain ones", of("pppppppp").fewest(), 4);
        Check.due("eight liars", of("llllllll").fewest(), 4);
        Check.due("two liars", of("ll").fewest(), -1);
        // more than 16 questions part them, and late ones are needed
        Check.due("seven plain ones behind an honest one", of("hppppppp").fewest(), 4);
        ExtraGuest late = Check.at(Inns.kinds("lppppppp") + Inns.sign(0, 0, "not ( a or b )"));
        late.sign(0, true);
        Check.due("six plain ones", late.fewest(), 3);
        Check.due("one liar of eight", of("lmmmmmmm").fewest(), 6);
        ExtraGuest it = of("mmmmmmmh");
        it.answer(7, 0, false);
        Check.due("one less", it.fewest(), 6);
        it.answer(7, 1, true);
        Check.due("he is sure", it.fewest(), 0);
        ExtraGuest one = Check.at(Inns.kinds("pmm") + Inns.sign(0, 0, "a or b"));
        one.sign(0, true);
        Check.due("one question of all parts the two", one.fewest(), 1);
        Check.due("about one who can't be", one.ask(), 2);
        ExtraGuest mixed = Check.at(Inns.kinds("mmm") + Inns.sign(0, 0, "a or b"));
        Check.due("a sign is no question", mixed.fewest(), -1);
    }

    private static void tellNeedsTheFewestSigns() {
        Check.about("TELL: the fewest SIGNS; of equal ones the least set; promise 18, NONE: not all together");
        Check.due("no world", new ExtraGuest().tell(), 0);
        Check.due("no guest", Check.at(Inns.signs(6)).tell(), 0);
        Check.due("one alone", Check.at(Inns.guests(1) + Inns.signs(6)).tell(), 0);
        Check.due("no sign", Check.at(Inns.guests(2)).tell(), -1);
        Check.due("not all together", Check.at(Inns.guests(2) + Inns.signs(6)).tell(), -1);
        String six = Inns.guests(7);
        for (int i = 0; i < 6; i++) {
            six += Inns.sign(i, 0, "" + (char) ('a' + i));
        }
        Check.due("all six", Check.at(six).tell(), 63);
        ExtraGuest three = Check.at(Inns.full());
        Check.due("three part eight", three.tell(), 7);
        Check.due("the last one alone", Check.at(Inns.guests(2) + Inns.signs(5) + Inns.sign(5, 0, "b")).tell(), 32);
        ExtraGuest fewer = Check.at(Inns.guests(4) + Inns.sign(0, 0, "a") + Inns.sign(1, 0, "b") + Inns.sign(2, 0, "c")
                + Inns.sign(3, 0, "a or b") + Inns.sign(4, 0, "a or c"));
        Check.due("two rather than three before them", fewer.tell(), 24);
        ExtraGuest equal = Check.at(Inns.guests(2) + Inns.sign(0, 0, "snow") + Inns.sign(1, 0, "a") + Inns.sign(2, 0, "b"));
        Check.due("of equal ones the least", equal.tell(), 2);
        ExtraGuest left = Check.at(Inns.guests(2) + Inns.sign(0, 0, "a and snow or b and not snow"));
        Check.due("in whatever world left", left.tell(), -1);
        left.weather(3);
        Check.due("of those left", left.tell(), 1);
    }

    /** All that takes a WORLD LEFT and GUESTS is NONE beyond them. */
    private static void others(ExtraGuest it, int guest, int world) {
        Check.about("Promise 19, NONE: others, not LEFT");
        Check.due("knows " + guest + ", " + world, it.knows(guest, world), -1);
        Check.about("Promise 20, NONE: likewise");
        Check.due("sure " + guest + " of 0, " + world, it.sure(guest, guest == 0 ? 1 : 0, world), -1);
        Check.due("sure 0 of " + guest + ", " + world, it.sure(guest == 0 ? 1 : 0, guest, world), -1);
    }

    private static void guestsAndWorldsLeftAlone() {
        for (int many = 0; many <= 8; many++) {
            ExtraGuest it = Check.at(Inns.guests(many) + Inns.signs(1));
            others(it, -1, 0);
            others(it, many, 0);
            others(it, 0, -1);
            others(it, 0, 4 * many);
            for (int far : FAR) {
                others(it, far, 0);
                others(it, 0, far);
            }
            if (many > 1) {
                Check.due("the last knows of all", it.knows(many - 1, 4 * many - 1), (1 << many) - 1);
                Check.due("nobody is sure", it.sure(many - 1, 0, 4 * many - 1), 0);
                Check.due("nobody is sure", it.sure(0, many - 1, 4 * many - 1), 0);
            }
            if (many > 0) {
                it.weather(2);
                for (int world = 0; world < 4 * many; world++) {
                    Check.due("left " + world, it.knows(0, world), world % 4 == 2 ? (1 << many) - 1 : -1);
                    Check.due("common " + world, it.common(world), world % 4 == 2 ? (1 << many) - 1 : -1);
                    if (world % 4 != 2) {
                        others(it, 0, world);
                        worldNotLeft(it, world);
                    }
                }
            }
            worldNotLeft(it, -1);
            worldNotLeft(it, 4 * many);
            for (int far : FAR) {
                worldNotLeft(it, far);
            }
        }
        Check.about("Promise 20, NONE: the same");
        ExtraGuest it = Check.at(Inns.guests(8));
        for (int guest = 0; guest < 8; guest++) {
            Check.due("sure of himself", it.sure(guest, guest, 0), -1);
        }
    }

    private static void worldNotLeft(ExtraGuest it, int world) {
        Check.about("Promise 21, NONE: others, not LEFT");
        Check.due("rounds " + world, it.rounds(world, 0), -1);
        Check.due("rounds " + world, it.rounds(world, 1), -1);
        Check.about("Promise 22, NONE: others, not LEFT");
        Check.due("common " + world, it.common(world), -1);
    }

    private static void viewsAreByWhatIsSeen() {
        Check.about("VIEW: WORLDS LEFT in which all SIGNS that he sees show just the same (without sees: all LEFT); KNOWS by it");
        ExtraGuest it = Check.at(Inns.full().replace("sees a p q r s t u;", "").replace("sees b p q r s t u;", "sees b s;"));
        for (int world = 0; world < 32; world++) {
            Check.due("without sees", it.knows(0, world), 255);
            Check.due("by the weather alone", it.knows(1, world), 255);
            Check.due("by all six signs", it.knows(7, world), 1 << world / 4);
            Check.due("a is sure of h", it.sure(0, 7, world), 1);
            Check.due("h is not of a", it.sure(7, 0, world), 0);
        }
        it.answer(1, 1, true);
        Check.due("one is left: who sees nothing knows", it.knows(0, 5), 2);
        Check.due("and all are sure", it.sure(7, 0, 5), 1);
        Check.about("SURE OF: in all WORLDS of his VIEW");
        ExtraGuest some = Check.at(Inns.guests(3) + Inns.sign(0, 0, "a") + Inns.sign(1, 0, "a or b") + "sees a p;sees b q;sees c p q;");
        Check.due("a of b, it is a: a or b", some.sure(0, 1, 0), 0);
        Check.due("c of b, it is c", some.sure(2, 1, 8), 1);
        Check.due("c of b, it is b", some.sure(2, 1, 4), 0);
        Check.due("c of a, it is a", some.sure(2, 0, 0), 1);
        Check.due("b of a, it can be b", some.sure(1, 0, 0), 0);
        Check.due("b of c always", some.sure(1, 2, 0), 1);
    }

    private static void roundsFromOne() {
        Check.about("ROUNDS: the round (from 1) in which somebody first knows it; who does then; NONE: none");
        ExtraGuest it = Check.at(CHAIN);
        int[] round = {1, 2, 3, 4, 5, 6, -1, -1};
        int[] who = {2, 1, 2, 1, 2, 1, -1, -1};
        for (int world = 0; world < 32; world++) {
            Check.due("rounds of " + world, it.rounds(world, 0), round[world / 4]);
            Check.due("who of " + world, it.rounds(world, 1), who[world / 4]);
        }
        Check.due("alone: at once", Check.at(Inns.guests(1)).rounds(0, 0), 1);
        Check.due("alone: he", Check.at(Inns.guests(1)).rounds(3, 1), 1);
        Check.due("none", Check.at(Inns.guests(8)).rounds(31, 0), -1);
        Check.due("all know at once", Check.at(Inns.full()).rounds(31, 1), 255);
        ExtraGuest last = Check.at(Inns.guests(3) + Inns.sign(0, 0, "a") + Inns.sign(1, 0, "c") + "sees a p;sees b q;");
        Check.due("when one alone is left all know it", last.rounds(4, 1), 7);
        Check.due("in round 2", last.rounds(4, 0), 2);
        Check.about("Promise 21, NONE: others (what)");
        for (int what : new int[] {-1, 2, -2, 3, Integer.MIN_VALUE, Integer.MAX_VALUE}) {
            Check.due("rounds 0, " + what, it.rounds(0, what), -1);
        }
    }

    private static void commonFromOneToTheNext() {
        Check.about("COMMON: GUESTS that are the ONE in some WORLD that VIEWS lead to");
        String seeing = CHAIN;
        for (char guest = 'c'; guest < 'i'; guest++) {
            seeing += "sees " + guest + " p q;";
        }
        ExtraGuest chain = Check.at(seeing);
        Check.due("the whole chain", chain.common(0), 255);
        Check.due("the whole chain", chain.common(31), 255);
        ExtraGuest cut = Check.at(seeing);
        // without d and e there is a, b, c and f, g, h
        cut.sign(3, false);
        Check.due("the first three", cut.common(0), 7);
        Check.due("from the third", cut.common(11), 7);
        Check.due("d is not left", cut.common(12), -1);
        ExtraGuest full = Check.at(Inns.full());
        for (int world = 0; world < 32; world++) {
            Check.due("all see all", full.common(world), 1 << world / 4);
        }
        for (char guest = 'a'; guest < 'i'; guest++) {
            ExtraGuest blind = Check.at(Inns.full().replace("sees " + guest + " p q r s t u;", ""));
            Check.due(guest + " sees nothing", blind.common(0), 255);
        }
    }

    public static void main(String[] args) {
        whoIsInSomeWorldLeft();
        askIsLessThanNow();
        fewestQuestionsAreEnough();
        tellNeedsTheFewestSigns();
        guestsAndWorldsLeftAlone();
        viewsAreByWhatIsSeen();
        roundsFromOne();
        commonFromOneToTheNext();
        Check.end();
    }
}

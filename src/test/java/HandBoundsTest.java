/** Bounds of WORLDS, what is so in them and what is done by hand ("Terms", part 2), and of promises 6 to 12, 33, 34. */
public final class HandBoundsTest {
    private static final int[] FAR = {Integer.MIN_VALUE, -65536, -33, -2, 33, 65536, Integer.MAX_VALUE};

    private static void worldsAreGuestTimesFourAndWeather() {
        Check.about("WORLD: its number is the GUEST * 4 + the WEATHER; promise 6, NONE: others");
        for (int many = 0; many <= 8; many++) {
            String first = many == 0 ? "snow" : "a";
            String last = many == 0 ? "snow" : "" + (char) ('a' + many - 1);
            ExtraGuest it = Check.at(Inns.guests(many) + Inns.sign(0, 0, first) + Inns.sign(1, 0, last)
                    + Inns.sign(2, 0, "clear") + Inns.sign(3, 0, "snow") + Inns.sign(4, 0, "fog") + Inns.sign(5, 0, "wind"));
            for (int world = 0; world < 4 * many; world++) {
                int due = (world < 4 ? 1 : 0) + (world >= 4 * many - 4 ? 2 : 0) + (4 << world % 4);
                Check.due("shows " + world + " of " + many, it.shows(world), due);
            }
            Check.due("shows -1 of " + many, it.shows(-1), -1);
            Check.due("shows behind the last of " + many, it.shows(4 * many), -1);
            for (int far : FAR) {
                Check.due("shows " + far, it.shows(far), -1);
            }
        }
        Check.due("without signs nothing shows", Check.at(Inns.guests(1)).shows(3), 0);
    }

    private static void leftIsBits() {
        Check.about("Promise 7: WORLDS LEFT, as bits; promise 34, what 2");
        Check.due("no inn", new ExtraGuest().left(), 0);
        int[] left = {0, 0xf, 0xff, 0xfff, 0xffff, 0xfffff, 0xffffff, 0xfffffff, -1};
        for (int many = 0; many <= 8; many++) {
            ExtraGuest it = Check.at(Inns.guests(many));
            Check.due("left of " + many, it.left(), left[many]);
            Check.due("count of " + many, it.count(2), 4 * many);
        }
    }

    /** Bits of odd 1, low 2, alone 4, old 8 for one GUEST in an INN. */
    private static int facts(String guests, int guest) {
        ExtraGuest it = Check.at(guests + Inns.sign(0, 0, "odd") + Inns.sign(1, 0, "low") + Inns.sign(2, 0, "alone")
                + Inns.sign(3, 0, "old"));
        return it.shows(guest * 4);
    }

    private static void factsHoldAtTheirEdges() {
        Check.about("FORMULA: odd, low: the ONE's room is odd, no more than 6");
        for (int room = 1; room <= 12; room++) {
            int due = room % 2 + (room <= 6 ? 2 : 0) + 4;
            Check.due("room " + room, facts(Inns.guest(0, "mad", room, 1), 0), due);
        }
        Check.about("FORMULA: alone: the ONE's room is nobody else's");
        for (int room = 1; room <= 12; room++) {
            String two = Inns.guest(0, "mad", 7, 1) + Inns.guest(1, "mad", room, 1);
            Check.due("7 and " + room, facts(two, 0) & 4, room == 7 ? 0 : 4);
            Check.due(room + " and 7", facts(two, 1) & 4, room == 7 ? 0 : 4);
        }
        String eight = "";
        for (int i = 0; i < 8; i++) {
            eight += Inns.guest(i, "mad", i == 7 ? 1 : i + 1, 1);
        }
        for (int i = 0; i < 8; i++) {
            Check.due("the first and the last share", facts(eight, i) & 4, i == 0 || i == 7 ? 0 : 4);
        }
        Check.about("FORMULA: old: he stays 10 or more");
        for (int stays : new int[] {1, 9, 10, 11, 99}) {
            Check.due("stays " + stays, facts(Inns.guest(0, "mad", 2, stays), 0), 6 + (stays >= 10 ? 8 : 0));
        }
        Check.about("SIGN: a SIGN's NAME: it SHOWS, five signs back");
        ExtraGuest it = Check.at(Inns.guests(2) + Inns.sign(0, 0, "a and snow") + Inns.sign(1, 0, "p") + Inns.sign(2, 0, "not q")
                + Inns.sign(3, 0, "r or p") + Inns.sign(4, 0, "s and p") + Inns.sign(5, 0, "t and not r"));
        Check.due("a in snow", it.shows(1), 1 + 2 + 8 + 16 + 32);
        Check.due("a when clear", it.shows(0), 4 + 8);
        Check.due("b in snow", it.shows(5), 4 + 8);
    }

    /** Who can be the ONE if the first of two says that it is a (about 0), or b (about 1), or that it is not. */
    private static void says(char kind, int about, boolean yes, int who) {
        ExtraGuest it = Check.at(Inns.kinds(kind + "m"));
        String call = kind + " about " + about + ", " + yes;
        Check.due(call, it.answer(0, about, yes), who == 0 ? -1 : 4 * Integer.bitCount(who));
        Check.due(call + ", who", it.who(), who == 0 ? 3 : who);
        ExtraGuest told = Check.at(Inns.kinds(kind + "m"));
        Check.morning(told, "says a " + (yes ? "" : "not ") + (about == 0 ? "a;" : "b;"));
        Check.due(call + ", told", told.judged(1), who == 0 ? 8 : 4 * Integer.bitCount(who));
        Check.due(call + ", told", told.judged(0), who == 0 ? 0 : -1);
    }

    private static void saysByKind() {
        Check.about("SAYS: true, unless he is the ONE (plain)");
        says('p', 0, true, 0);
        says('p', 0, false, 3);
        says('p', 1, true, 3);
        says('p', 1, false, 0);
        Check.about("SAYS: true (honest)");
        says('h', 0, true, 1);
        says('h', 0, false, 2);
        says('h', 1, true, 2);
        says('h', 1, false, 1);
        Check.about("SAYS: not true, unless he is the ONE (liar)");
        says('l', 0, true, 3);
        says('l', 0, false, 0);
        says('l', 1, true, 0);
        says('l', 1, false, 3);
        Check.about("SAYS: anything (mad)");
        for (int about = 0; about < 2; about++) {
            says('m', about, true, 3);
            says('m', about, false, 3);
        }
    }

    private static void answersAreOfGuests() {
        Check.about("Promise 8, NONE: others");
        for (int many = 0; many <= 8; many++) {
            ExtraGuest it = Check.at(Inns.guests(many));
            for (boolean yes : new boolean[] {true, false}) {
                Check.due("asked -1", it.answer(-1, 0, yes), -1);
                Check.due("asked " + many, it.answer(many, 0, yes), -1);
                Check.due("about -1", it.answer(0, -1, yes), -1);
                Check.due("about " + many, it.answer(0, many, yes), -1);
                for (int far : FAR) {
                    Check.due("asked " + far, it.answer(far, 0, yes), -1);
                    Check.due("about " + far, it.answer(0, far, yes), -1);
                }
            }
            Check.due("nothing is done", it.count(6), 0);
            if (many > 0) {
                Check.due("the last, himself", it.answer(many - 1, many - 1, true), 4 * many);
                Check.due("one is done", it.count(6), 1);
            }
        }
        Check.about("ANSWER: just if some WORLD LEFT goes with it; promise 8, NONE: it can't be");
        ExtraGuest it = Check.at(Inns.kinds("hhhhhhhh"));
        Check.due("not a", it.answer(7, 0, false), 28);
        Check.due("a", it.answer(6, 0, true), -1);
        Check.due("h", it.answer(0, 7, true), 4);
        Check.due("not h", it.answer(0, 7, false), -1);
        Check.due("h's worlds", it.left(), 0xf0000000);
        Check.due("one world", it.weather(3), 1);
        Check.due("the last world", it.left(), 0x80000000);
        Check.due("h again", it.answer(7, 7, true), 1);
        Check.due("four are done", it.count(6), 4);
    }

    private static void signsShowOrNot() {
        Check.about("Promise 9, NONE: others");
        for (int many = 0; many <= 6; many++) {
            ExtraGuest it = Check.at(Inns.guests(1) + Inns.signs(many));
            for (boolean shown : new boolean[] {true, false}) {
                Check.due("sign -1", it.sign(-1, shown), -1);
                Check.due("sign " + many, it.sign(many, shown), -1);
                for (int far : FAR) {
                    Check.due("sign " + far, it.sign(far, shown), -1);
                }
            }
            if (many > 0) {
                Check.due("the last one shows", it.sign(many - 1, true), 1);
                it.undo();
                Check.due("the last one does not", it.sign(many - 1, false), 3);
            }
        }
        Check.about("SIGN: just if some WORLD LEFT goes with it; promise 9, NONE: it can't be");
        ExtraGuest it = Check.at(Inns.guests(8) + Inns.sign(0, 0, "snow or not snow") + Inns.sign(1, 0, "h and wind"));
        Check.due("always", it.sign(0, true), 32);
        Check.due("never not", it.sign(0, false), -1);
        Check.due("all but one", it.sign(1, false), 31);
        Check.due("then not that one", it.sign(1, true), -1);
        Check.due("left", it.left(), 0x7fffffff);
        it.undo();
        Check.due("that one", it.sign(1, true), 1);
        Check.due("then not the others", it.sign(1, false), -1);
        Check.due("left", it.left(), 0x80000000);
        Check.due("two are done", it.count(6), 2);
    }

    private static void weathersAreFour() {
        Check.about("Promise 10: 0 clear .. 3 wind; NONE: others");
        for (int many = 0; many <= 8; many++) {
            for (int weather = 0; weather < 4; weather++) {
                ExtraGuest it = Check.at(Inns.guests(many));
                Check.due("weather " + weather, it.weather(weather), many == 0 ? -1 : many);
                Check.due("left", it.left(), (int) ((1L << 4 * many) - 1) & 0x11111111 << weather);
                for (int other = 0; other < 4; other++) {
                    Check.due("and " + other, it.weather(other), many == 0 || other != weather ? -1 : many);
                }
                Check.due("done", it.count(6), many == 0 ? 0 : 2);
            }
            ExtraGuest it = Check.at(Inns.guests(many));
            Check.due("weather -1", it.weather(-1), -1);
            Check.due("weather 4", it.weather(4), -1);
            for (int far : FAR) {
                Check.due("weather " + far, it.weather(far), -1);
            }
        }
    }

    private static void nightsAreTenAtMost() {
        Check.about("NIGHT: 10 at most; promise 11, NONE: 10 ended, no GUEST");
        ExtraGuest it = Check.at(Inns.kinds("hmm"));
        for (int i = 0; i < 10; i++) {
            Check.due("ended", it.count(3), i);
            it.answer(0, i % 3, true);
            Check.due("night " + i, it.night(), 1 << i % 3);
            Check.due("all worlds are left again", it.left(), 0xfff);
        }
        Check.due("ended", it.count(3), 10);
        it.answer(0, 1, true);
        Check.due("an eleventh", it.night(), -1);
        Check.due("ended", it.count(3), 10);
        Check.due("left", it.left(), 0xf0);
        Check.due("16 of 21", it.count(6), 16);
        Check.due("undo the answer", it.undo(), true);
        Check.due("still ten", it.night(), -1);
        Check.due("undo the tenth", it.undo(), true);
        Check.due("nine", it.count(3), 9);
        Check.due("the tenth again", it.night(), 1);
        Check.due("an eleventh", it.night(), -1);
        Check.due("without an inn", new ExtraGuest().night(), -1);
        ExtraGuest nobody = Check.at(Inns.signs(6));
        Check.due("without guests", nobody.night(), -1);
        Check.due("none ended", nobody.count(3), 0);
        Check.due("nothing to undo", nobody.undo(), false);
        Check.due("one alone", Check.at(Inns.guests(1)).night(), 1);
        Check.due("eight", Check.at(Inns.guests(8)).night(), 255);
    }

    private static void undoesTheLastSixteen() {
        Check.about("UNDO: these, the last 16, one by one; promise 12, false: nothing can be");
        for (int done : new int[] {0, 1, 15, 16, 17, 18, 40}) {
            ExtraGuest it = Check.at(Inns.kinds("hm"));
            for (int i = 0; i < done; i++) {
                Check.due("can be undone", it.count(6), Math.min(16, i));
                if (i == 0) {
                    it.weather(2);
                } else {
                    it.answer(1, 0, i % 2 == 0);
                }
            }
            for (int i = Math.min(16, done); i > 0; i--) {
                Check.due("can be undone", it.count(6), i);
                Check.due("undo", it.undo(), true);
            }
            Check.due("nothing more of " + done, it.undo(), false);
            Check.due("nor again", it.undo(), false);
            Check.due("none", it.count(6), 0);
            Check.due("the first stays behind 16 others", it.left(), done > 16 ? 0x44 : 0xff);
        }
        Check.about("UNDO: answers, signs, weathers, nights, in the order turned round");
        ExtraGuest it = Check.at(Inns.kinds("hm") + Inns.sign(0, 0, "snow or fog"));
        it.sign(0, true);
        it.weather(1);
        it.answer(0, 1, true);
        it.night();
        it.weather(3);
        int[] left = {0xff, 0x20, 0x22, 0x66, 0xff};
        for (int due : left) {
            Check.due("undo", it.undo(), true);
            Check.due("left", it.left(), due);
            Check.due("nights", it.count(3), due == 0xff && it.count(6) > 0 ? 1 : 0);
        }
        Check.due("nothing more", it.undo(), false);
    }

    private static void whatIsRefusedCanNotBeUndone() {
        Check.about("UNDO: these; what is refused, HEARD or MARKED is none of them");
        ExtraGuest it = Check.at(Inns.kinds("hm") + Inns.sign(0, 0, "a"));
        it.weather(4);
        it.sign(1, true);
        it.answer(2, 0, true);
        it.hear(0, true);
        it.mark(0, false);
        Check.feed(it, "night;");
        it.morning();
        it.judged(0);
        Check.due("nothing yet", it.undo(), false);
        it.answer(0, 0, true);
        it.answer(0, 0, false);
        it.sign(0, false);
        Check.due("one", it.count(6), 1);
        Check.due("undo", it.undo(), true);
        Check.due("both can be", it.who(), 3);
        Check.due("it is heard yet", it.count(5), 1);
        Check.due("the morning is there yet", it.count(4), 1);
    }

    private static void marksAreFour() {
        Check.about("MARKS 0 to 3; promise 33, false: none such");
        ExtraGuest it = Check.at(Inns.kinds("hhhh"));
        for (int far : FAR) {
            Check.due("laid", it.mark(far, false), false);
            Check.due("back", it.mark(far, true), false);
        }
        for (int mark : new int[] {-1, 4}) {
            Check.due("laid", it.mark(mark, false), false);
            Check.due("back", it.mark(mark, true), false);
        }
        Check.about("Promise 33, false: nothing is on it (back)");
        for (int mark = 0; mark < 4; mark++) {
            it.answer(0, mark, true);
            Check.due("nothing is on " + mark, it.mark(mark, true), false);
            Check.due("laid " + mark, it.mark(mark, false), true);
            for (int other = mark + 1; other < 4; other++) {
                Check.due("nothing is on " + other, it.mark(other, true), false);
            }
            Check.due("undo is there yet", it.undo(), true);
        }
        Check.about("MARKS hold each its own");
        for (int mark : new int[] {3, 1, 0, 2}) {
            Check.due("back " + mark, it.mark(mark, true), true);
            Check.due("left " + mark, it.left(), 15 << 4 * mark);
            Check.due("nothing can be undone", it.undo(), false);
        }
    }

    private static void marksHoldNightsAndHeard() {
        Check.about("MARKS hold which WORLDS are LEFT, nights kept, what is HEARD; not what can be undone");
        ExtraGuest it = Inns.brimming();
        it.weather(1);
        it.mark(2, false);
        Check.due("back to before", it.mark(1, true), true);
        Check.due("all worlds", it.count(2), 32);
        Check.due("ten nights", it.count(3), 10);
        Check.due("eight heard", it.count(5), 8);
        Check.due("nothing undone", it.count(6), 0);
        Check.due("no eleventh night", it.night(), -1);
        Check.due("nothing more is heard", it.hear(0, true), false);
        Check.due("the morning stays", it.count(4), 24);
        Check.due("the tape stays", it.count(7), 1000);
        Check.due("forth", it.mark(2, true), true);
        Check.due("in snow", it.left(), 0x22222222);
        Check.due("the tape is a morning, no inn", it.inn(), 1);
        Check.due("the empty one is", it.inn(), 0);
        for (int mark = 0; mark < 4; mark++) {
            Check.due("no mark is there", it.mark(mark, true), false);
            Check.due("laid without guests", it.mark(mark, false), true);
            Check.due("and gone back to", it.mark(mark, true), true);
            Check.due("nothing is left", it.left(), 0);
        }
    }

    private static void countsAtTheirMost() {
        Check.about("Promise 34: all counts at their most; NONE for another what");
        ExtraGuest it = Inns.brimming();
        int[] due = {8, 6, 32, 10, 24, 8, 16, 1000};
        for (int what = 0; what < 8; what++) {
            Check.due("count " + what, it.count(what), due[what]);
        }
        for (int what : new int[] {-1, 8}) {
            Check.due("count " + what, it.count(what), -1);
            Check.due("of nothing", new ExtraGuest().count(what), -1);
        }
        for (int far : FAR) {
            Check.due("count " + far, it.count(far), -1);
        }
    }

    public static void main(String[] args) {
        worldsAreGuestTimesFourAndWeather();
        leftIsBits();
        factsHoldAtTheirEdges();
        saysByKind();
        answersAreOfGuests();
        signsShowOrNot();
        weathersAreFour();
        nightsAreTenAtMost();
        undoesTheLastSixteen();
        whatIsRefusedCanNotBeUndone();
        marksAreFour();
        marksHoldNightsAndHeard();
        countsAtTheirMost();
        Check.end();
    }
}

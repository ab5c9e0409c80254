/** Bounds of INN, NAME, FORMULA, E and FAULTS ("Terms", part 1), and of promises 1, 3 and 5. */
public final class InnBoundsTest {
    private static final String[] RESERVED = {"guest", "room", "stays", "sign", "errs", "when", "sees", "shun", "bill",
        "says", "shows", "hides", "weather", "night", "plain", "honest", "liar", "mad", "clear", "snow", "fog", "wind",
        "odd", "low", "alone", "old", "not", "and", "or"};

    private static void inn(int kind, String marked) {
        Check.reads(new ExtraGuest(), true, kind, marked);
    }

    private static void innHasAnyNumberOfLines() {
        Check.about("INN: any number of lines");
        inn(0, "");
        inn(0, "bill 1;");
        String many = "guest a mad room 1 stays 1;bill 1;sign p errs 0 when a;guest b mad room 1 stays 1;shun a b;sees b p;";
        inn(0, many);
        String lines = Inns.full();
        inn(0, lines + " ".repeat(1000 - lines.length()));
        inn(0, "bill 1" + "+1".repeat(496) + " ;");
        inn(0, "guest a mad room 1 stays 1;sign p errs 0 when a" + " or a".repeat(190) + ";");
    }

    private static void guestsAreEightAtMost() {
        Check.about("guest: 8 at most, numbered as told; 5: the word guest of a ninth");
        StringBuilder text = new StringBuilder();
        for (int many = 0; many <= 8; many++) {
            ExtraGuest it = Check.at(text.toString());
            Check.due("guests", it.count(0), many);
            Check.due("worlds", it.count(2), 4 * many);
            for (int i = 0; i < many; i++) {
                Check.due("room of " + i, it.guest(i, 1), 12 - i);
            }
            text.append(Inns.guest(many, "mad", 12 - many, 1));
        }
        inn(0, Inns.guests(8));
        inn(5, Inns.guests(8) + "|guest i mad room 1 stays 1;");
        inn(5, Inns.guests(8) + "|guest a");
        inn(5, Inns.guests(4) + Inns.signs(6) + Inns.guests(8).substring(Inns.guests(4).length()) + "|guest");
        inn(0, Inns.guests(8) + Inns.signs(6));
    }

    private static void kindsAreFour() {
        Check.about("KIND: plain, honest, liar, mad; promise 5, what 0");
        ExtraGuest it = Check.at(Inns.kinds("phlmmlhp"));
        int[] kinds = {0, 1, 2, 3, 3, 2, 1, 0};
        for (int i = 0; i < 8; i++) {
            Check.due("kind of " + i, it.guest(i, 0), kinds[i]);
        }
        for (String other : RESERVED) {
            if ("plain honest liar mad".indexOf(other) < 0) {
                inn(1, "guest a |" + other + " room 1 stays 1;");
            }
        }
        inn(1, "guest a |a room 1 stays 1;");
        inn(1, "guest a |1 room 1 stays 1;");
    }

    /** A NUMBER from the least to the most is taken, the two beyond are FAULT 4, so are the greatest. */
    private static void number(int least, int most, String before, String behind) {
        inn(0, before + least + behind);
        inn(0, before + most + behind);
        if (least > 0) {
            inn(4, before + "|" + (least - 1) + behind);
        }
        inn(4, before + "|" + (most + 1) + behind);
        inn(4, before + "|9999" + behind);
        inn(1, before + "|10000" + behind);
        inn(1, before + "|- 1" + behind);
        inn(1, before + "|a" + behind);
        inn(1, before + "|" + behind);
    }

    private static void numbersLieWhereTold() {
        Check.about("guest: room 1 to 12; 4: a NUMBER that is not as told");
        number(1, 12, "guest a mad room ", "stays 1;");
        Check.about("guest: stays 1 to 99; 4: a NUMBER that is not as told");
        number(1, 99, "guest a mad room 1 stays ", ";");
        Check.about("sign: errs 0 to 10; 4: a NUMBER that is not as told");
        number(0, 10, "sign p errs ", "when snow;");
        Check.about("Promise 5, what 1 and 2: each room and each stay that can be");
        for (int room = 1; room <= 12; room++) {
            Check.due("room", Check.at(Inns.guest(0, "mad", room, 1)).guest(0, 1), room);
        }
        for (int stays = 1; stays <= 99; stays++) {
            Check.due("stays", Check.at(Inns.guest(0, "mad", 1, stays)).guest(0, 2), stays);
        }
    }

    private static void signsAreSixAtMost() {
        Check.about("sign: 6 at most, numbered as told; 5: the word sign of a seventh");
        for (int many = 0; many <= 6; many++) {
            ExtraGuest it = Check.at(Inns.guests(1) + Inns.signs(many));
            Check.due("signs", it.count(1), many);
            Check.due("all show in snow", it.shows(1), (1 << many) - 1);
        }
        inn(5, Inns.signs(6) + "|sign x errs 0 when snow;");
        inn(5, Inns.signs(6) + "|sign p");
        inn(5, Inns.signs(6) + Inns.guests(8) + "|sign");
        inn(0, Inns.signs(6) + Inns.guests(8));
        ExtraGuest it = Check.at(Inns.guests(6) + Inns.sign(0, 0, "a") + Inns.sign(1, 0, "b") + Inns.sign(2, 0, "c")
                + Inns.sign(3, 0, "d") + Inns.sign(4, 0, "e") + Inns.sign(5, 0, "f"));
        for (int i = 0; i < 6; i++) {
            Check.due("sign " + i, it.shows(4 * i), 1 << i);
        }
    }

    private static void seesNamesAGuestAndSigns() {
        String told = Inns.guests(8) + Inns.signs(6);
        Check.about("sees: a GUEST told, then SIGNS told; 2: a NAME of none such");
        inn(2, told + "sees |x p;");
        inn(2, told + "sees |p p;");
        inn(2, told + "sees a |x;");
        inn(2, told + "sees a |a;");
        inn(2, told + "sees a p |x;");
        inn(2, "sees |a p;" + told);
        inn(2, Inns.guests(1) + "sees a |p;" + Inns.signs(1));
        Check.about("sees: SIGNS, at least one; promise 5, what 3");
        inn(1, told + "sees a |;");
        inn(1, told + "sees a|");
        int[] due = {1, 3, 7, 15, 31, 63};
        String signs = "";
        for (int i = 0; i < 6; i++) {
            signs = " " + (char) ('p' + i) + signs;
            Check.due("sees" + signs, Check.at(told + "sees h" + signs + ";").guest(7, 3), due[i]);
        }
        Check.about("sees: each SIGN once; 3: the same SIGN again");
        inn(3, told + "sees a p |p;");
        inn(3, told + "sees a p q |p;");
        inn(3, told + "sees a p q r s t u |p;");
        inn(3, told + "sees a p q r s t u |u;");
        inn(2, told + "sees a p q r s t u |x;");
        inn(1, told + "sees a p q r s t u |1;");
        inn(1, told + "sees a p q r s t u|");
        Check.about("sees: each GUEST so once; 3: a GUEST told so already");
        String all = told;
        for (char guest = 'a'; guest < 'i'; guest++) {
            all += "sees " + guest + " u;";
            inn(0, all);
            inn(3, all + "sees |" + guest + " p;");
            inn(3, all + "sees |a u;");
        }
        ExtraGuest it = Check.at(all);
        for (int i = 0; i < 8; i++) {
            Check.due("sees of " + i, it.guest(i, 3), 32);
        }
    }

    private static void shunNamesTwoGuests() {
        String told = Inns.guests(8) + Inns.signs(1);
        Check.about("shun: two GUESTS told; 2: a NAME of none such");
        inn(2, told + "shun |x a;");
        inn(2, told + "shun a |x;");
        inn(2, told + "shun |p a;");
        inn(2, told + "shun a |p;");
        inn(2, Inns.guests(1) + "shun a |b;" + Inns.guest(1, "mad", 1, 1));
        inn(1, told + "shun |;");
        inn(1, told + "shun a |;");
        inn(1, told + "shun a b |c;");
        Check.about("shun: not the same; 3: the second NAME that is the first one");
        for (char one = 'a'; one < 'i'; one++) {
            inn(3, told + "shun " + one + " |" + one + ";");
        }
        Check.about("shun: each pair once; 3: the second NAME of a pair told");
        for (char one = 'a'; one < 'i'; one++) {
            for (char two = 'a'; two < 'i'; two++) {
                if (one != two) {
                    inn(3, told + Inns.shuns(8) + "shun " + one + " |" + two + ";");
                }
            }
        }
        inn(0, told + Inns.shuns(8));
        ExtraGuest it = Check.at(told + Inns.shuns(8));
        for (int i = 0; i < 8; i++) {
            Check.due("shuns of " + i, it.guest(i, 4), 255 - (1 << i));
        }
        Check.about("Promise 5, what 4: whom he shuns, or is shunned by");
        ExtraGuest some = Check.at(told + "shun h a;shun c h;");
        int[] due = {128, 0, 128, 0, 0, 0, 0, 5};
        for (int i = 0; i < 8; i++) {
            Check.due("shuns of " + i, some.guest(i, 4), due[i]);
        }
    }

    private static void billIsToldOnce() {
        Check.about("bill: once; 3: bill a second time");
        inn(0, "bill 1;");
        inn(3, "bill 1;|bill 1;");
        inn(3, "bill 1;|bill");
        inn(3, "bill 1;" + Inns.guests(8) + "|bill 2;");
        inn(1, "bill 1|bill 1;");
    }

    private static void wordsStandWhereTheyCan() {
        Check.about("INN: lines begin with guest, sign, sees, shun, bill; FAULTS: 1 it can't stand there");
        for (String word : RESERVED) {
            if ("guest sign sees shun bill".indexOf(word) < 0) {
                inn(1, "|" + word + " a mad room 1 stays 1;");
            }
        }
        Check.about("FORMULA: an ITEM is not .., ( .. ), a WEATHER, odd, low, alone, old, a NAME; E: a PART not .., ( .. ), a NUMBER, a fact");
        for (String word : RESERVED) {
            boolean item = "clear snow fog wind odd low alone old not".indexOf(word) >= 0;
            if (!item) {
                inn(1, Inns.guests(1) + "sign p errs 0 when |" + word + ";");
                inn(1, Inns.guests(1) + "sign p errs 0 when a or |" + word + ";");
            }
            if (!word.equals("not")) {
                inn(1, "bill |" + word + ";");
                inn(1, "bill 1+|" + word + ";");
            }
            if (!word.equals("and") && !word.equals("or")) {
                inn(1, Inns.guests(1) + "sign p errs 0 when a |" + word + " a;");
                inn(1, "bill 1 |" + word + " 1;");
            }
        }
    }

    private static void namesAreOtherWords() {
        Check.about("NAME: another WORD than those with a meaning");
        for (String word : RESERVED) {
            inn(1, "guest |" + word + " mad room 1 stays 1;");
            inn(1, "sign |" + word + " errs 0 when snow;");
            inn(1, Inns.guests(2) + "shun |" + word + " a;");
            inn(1, Inns.guests(2) + "shun a |" + word + ";");
            if (word.length() < 8) {
                inn(0, "guest " + word + "x mad room 1 stays 1;sign x" + word + " errs 0 when " + word + "x;");
            }
            inn(0, "guest " + word.substring(1) + "z mad room 1 stays 1;");
        }
        for (String word : new String[] {"door", "nights", "many", "inn", "morning", "one", "x"}) {
            inn(0, "guest " + word + " mad room 1 stays 1;sign s errs 0 when " + word + ";");
            inn(0, "sign " + word + " errs 0 when snow;sign s errs 0 when " + word + ";");
        }
        Check.about("E: a fact stays one if a GUEST bears its name; another NAME is none");
        ExtraGuest it = Check.at("guest door mad room 3 stays 5;guest many mad room 1 stays 7;bill door;");
        Check.due("by rooms", it.bill(4, 0), 3);
        inn(1, Inns.guests(1) + "bill |a;");
    }

    private static void noTwoNamesAreAlike() {
        Check.about("NAME: no two (GUESTS, SIGNS) are alike; 3: a NAME told already");
        String guest = "guest abcdefgh mad room 1 stays 1;";
        String sign = "sign abcdefgh errs 0 when snow;";
        for (String first : new String[] {guest, sign}) {
            inn(3, first + "guest |abcdefgh mad room 1 stays 1;");
            inn(3, first + "sign |abcdefgh errs 0 when snow;");
            for (String other : new String[] {"abcdefg", "bcdefgh", "abcdefgi", "bbcdefgh", "abcdxfgh", "h", "a"}) {
                inn(0, first + "guest " + other + " mad room 1 stays 1;");
                inn(0, first + "sign " + other + " errs 0 when snow;");
            }
        }
        inn(3, Inns.guests(7) + "guest |g mad room 1 stays 1;");
        inn(3, Inns.guests(7) + "guest |a mad room 1 stays 1;");
        inn(3, Inns.signs(5) + "sign |t errs 0 when snow;");
        inn(3, Inns.signs(6) + "guest |u mad room 1 stays 1;");
        inn(3, Inns.guests(8) + "sign |h errs 0 when snow;");
    }

    private static void formulasNameWhatIsTold() {
        Check.about("FORMULA: the NAME of a GUEST or a SIGN told; 2: a NAME of neither told");
        inn(2, "sign p errs 0 when |p;");
        inn(2, "sign p errs 0 when |q;" + Inns.sign(1, 0, "snow"));
        inn(2, "sign p errs 0 when |a;" + Inns.guests(1));
        inn(2, Inns.guests(8) + Inns.signs(5) + "sign u errs 0 when a or |u;");
        inn(2, Inns.guests(8) + Inns.signs(5) + "sign u errs 0 when not |i;");
        inn(0, Inns.guests(8) + Inns.signs(5) + "sign u errs 0 when a or h or p or t;");
        inn(2, Inns.guests(1) + "sign p errs 0 when |door;");
        Check.due("each of 8 and 5 is known", Check.at(Inns.guests(8) + Inns.signs(5)
                + Inns.sign(5, 0, "h and not ( p and q and r and s and t )")).shows(31), 32);
    }

    /** An item within so many of not and ( ), of which a set of bits tells which; | at the item. */
    private static String within(int depth, int brackets, String item) {
        StringBuilder text = new StringBuilder();
        StringBuilder behind = new StringBuilder();
        for (int i = 0; i < depth; i++) {
            boolean bracket = (brackets >> i & 1) == 1;
            text.append(bracket ? "(" : "not ");
            behind.append(bracket ? ")" : "");
        }
        return text + "|" + item + behind;
    }

    /** Each item stands within 0 to 4 of not and ( ), and is FAULT 5 within 5, however these are mixed. */
    private static void nesting(String before, String... items) {
        for (String item : items) {
            for (int depth = 0; depth <= 5; depth++) {
                for (int brackets = 0; brackets < 1 << depth; brackets++) {
                    String text = within(depth, brackets, item);
                    inn(depth < 5 ? 0 : 5, before + (depth < 5 ? text.replace("|", "") : text) + ";");
                }
            }
        }
    }

    private static void noItemLiesWithinFive() {
        Check.about("FORMULA: no ITEM lies within 5 of not and ( ); 5: not, or an ITEM, within 5 others");
        String before = Inns.guests(1) + Inns.signs(1) + "sign x errs 0 when ";
        nesting(before, "clear", "snow", "fog", "wind", "odd", "low", "alone", "old", "a", "p");
        for (int brackets = 0; brackets < 32; brackets++) {
            inn(5, before + within(5, brackets, "not a") + ";");
            inn(5, before + within(5, brackets, "(a)") + ";");
            inn(5, before + within(5, brackets, "not") + ";");
            inn(5, before + within(5, brackets, "(") + ";");
        }
        inn(0, before + "((((a))))and not not not not a or((((p))))and(((not p)));");
        inn(0, before + "((((a or p)and not a)or odd)and(low or((fog))));");
        inn(5, before + "((((a or p)and not a)or odd)and(low or(((|fog)))));");
        inn(0, before + "(a and a and a and a and a and a or a or a or a or a or a or a);");
        Check.about("FAULTS: of the first wrong token the least, within 5 of not and ( )");
        for (int brackets = 0; brackets < 32; brackets++) {
            inn(2, before + within(5, brackets, "b") + ";");
            inn(1, before + within(5, brackets, "1") + ";");
            inn(1, before + within(5, brackets, "mad") + ";");
            inn(1, before + within(5, brackets, "ninechars") + ";");
            inn(1, before + within(5, brackets, ";"));
        }
    }

    private static void noPartLiesWithinFive() {
        Check.about("E: no PART lies within 5 of not and ( ); 5: not, or a PART, within 5 others");
        nesting("bill ", "0", "9999", "door", "nights", "many");
        for (int brackets = 0; brackets < 32; brackets++) {
            inn(5, "bill " + within(5, brackets, "not 1") + ";");
            inn(5, "bill " + within(5, brackets, "(1)") + ";");
            inn(1, "bill " + within(5, brackets, "a") + ";");
            inn(1, "bill " + within(5, brackets, "10000") + ";");
            inn(1, "bill " + within(5, brackets, "snow") + ";");
            inn(1, "bill " + within(5, brackets, ";"));
        }
        inn(0, "bill((((1))))+not not not not 1<((((door))))and(((not many)));");
        inn(0, "bill((((1+2)*3)<4)and(5-((6))));");
        inn(5, "bill((((1+2)*3)<4)and(5-(((|6)))));");
        inn(0, "bill(1*1*1*1*1*1+1+1+1+1+1+1-1-1<1 and 1 and 1 or 1 or 1 or 1 or 1);");
    }

    private static void theEndIsATokenAtTheTextsLength() {
        Check.about("FAULTS: the end being a token at the text's length");
        String text = "guest a mad room 1 stays 1 ; sign p errs 0 when ( a or not snow ) ; sees a p ; bill ( 1 + 2 ) < 3 ; ";
        for (int i = 0; i <= text.length(); i++) {
            boolean between = i == text.length() || text.charAt(i) == ' ';
            String cut = text.substring(0, i);
            if (between && (cut.isBlank() || cut.trim().endsWith(";"))) {
                inn(0, cut);
            } else if (between) {
                inn(1, cut + "|");
                inn(1, cut + " \n |");
            }
        }
        inn(1, "bill 1" + " ".repeat(994) + "|");
    }

    private static void theFirstWrongTokenCounts() {
        Check.about("FAULTS: of the first token from the left that is wrong");
        inn(4, "guest a mad room |0 stays 0;");
        inn(1, "guest |1 sad room 13 stays 100;");
        inn(1, "guest a |sad room 13 stays 100;");
        inn(2, Inns.guests(1) + "sees |x x;guest a");
        inn(3, Inns.guests(1) + "guest |a sad room 0");
        inn(3, "bill 1;|bill x;%");
        inn(5, Inns.guests(8) + "|guest 1 x 0 %");
        inn(4, "sign p errs |11 x");
        inn(1, "bill 1 |%;bill 1;");
        inn(1, "guest a mad |stays 1;%");
        inn(1, "guest a mad room |stays 1;%");
        inn(1, "sign p |when snow;%");
        inn(1, "sign p errs |when snow;%");
        inn(4, "sign p errs |11 when snow;%");
        for (String twice : new String[] {"+", "-", "*", "<", "=", " and ", " or "}) {
            inn(1, "bill 1" + twice + "|" + twice.trim() + " 1;%");
        }
        inn(1, Inns.guests(1) + "sign p errs 0 when a or |or a;%");
        inn(1, Inns.guests(1) + "sign p errs 0 when a and |and a;%");
        inn(1, Inns.guests(1) + "sign p errs 0 when (a|;%");
    }

    private static void anInnSetsAllBack() {
        Check.about("INN: all WORLDS are LEFT, no night has ended, nothing HEARD, no MORNING, nothing undone, no MARK");
        Twins.same("behind a full one", ExtraGuest::new, it -> {
            Check.inn(it, Inns.rich());
        }, it -> {
            Check.inn(it, Inns.full());
            Check.morning(it, "night;".repeat(24));
            for (int i = 0; i < 8; i++) {
                it.hear(i % 6, true);
                it.mark(i % 4, false);
                it.night();
            }
            it.weather(1);
            Check.due("a rich one", Check.inn(it, Inns.rich()), 0);
        });
        Twins.same("behind three of them, and FAULTS between", ExtraGuest::new, it -> {
            Check.inn(it, "guest x liar room 9 stays 8;guest y mad room 9 stays 8;sign z errs 3 when y;");
        }, it -> {
            Check.inn(it, Inns.full());
            Check.inn(it, Inns.full().replace(";bill door*nights-9", ";bill 0;%"));
            Check.inn(it, Inns.full());
            Check.inn(it, Inns.rich() + "%");
            Check.due("the next", Check.inn(it, "guest x liar room 9 stays 8;guest y mad room 9 stays 8;sign z errs 3 when y;"), 0);
        });
        Twins.same("an empty one", ExtraGuest::new, it -> { }, it -> {
            Check.inn(it, Inns.rich());
            it.night();
            it.mark(2, false);
            it.hear(1, true);
            Check.due("no text at all", it.inn(), 0);
        });
    }

    private static void anInnTakesNothingFromThoseBefore() {
        Check.about("INN: what showed in another INN, or in one with a FAULT, does not show in this one");
        String always = Inns.guests(8) + Inns.sixSigns("snow or not snow");
        String never = Inns.guests(8) + Inns.sixSigns("snow and not snow");
        for (String between : new String[] {always, never, always + "%", ""}) {
            ExtraGuest it = Check.at(always);
            Check.inn(it, between);
            Check.due("never", Check.inn(it, never), 0);
            for (int world = 0; world < 32; world++) {
                Check.due("shows " + world, it.shows(world), 0);
            }
        }
    }

    private static void aFaultLeavesAll() {
        Check.about("Promise 3: the FAULT of an INN (all stays then, but the TAPE is taken)");
        String[] faulty = {"%", "sees x", "bill 1;bill", "guest a mad room 0", Inns.guests(8) + "guest",
            Inns.signs(6) + "sign", Inns.full() + "x"};
        int[] due = {1, 2 + 16 * 5, 3 + 16 * 7, 4 + 16 * 17, 5 + 16 * Inns.guests(8).length(),
            5 + 16 * Inns.signs(6).length(), 1 + 16 * Inns.full().length()};
        for (int i = 0; i < faulty.length; i++) {
            String text = faulty[i];
            int fault = due[i];
            Twins.same("inn of " + text, Inns::used, it -> {
                it.morning();
                Check.due(text, Check.inn(it, text), fault);
            }, ExtraGuest::morning);
        }
    }

    private static void aNewObjectIsNothing() {
        Check.about("Promise 1: nothing; at first: nothing");
        ExtraGuest it = new ExtraGuest();
        for (int what = 0; what < 8; what++) {
            Check.due("count " + what, it.count(what), 0);
        }
        Twins.same("as an empty inn", ExtraGuest::new, ExtraGuest::inn, other -> { });
    }

    private static void guestTakesGuestsAndWhats() {
        Check.about("Promise 5, NONE: others");
        for (int many = 0; many <= 8; many++) {
            ExtraGuest it = Check.at(Inns.guests(many));
            for (int what = 0; what < 5; what++) {
                Check.due("guest -1 of " + many, it.guest(-1, what), -1);
                Check.due("guest " + many + " of " + many, it.guest(many, what), -1);
                Check.due("the last of " + many, it.guest(many - 1, what) == -1, many == 0);
            }
            for (int guest = 0; guest < many; guest++) {
                for (int what : new int[] {-1, 5, Integer.MIN_VALUE, Integer.MAX_VALUE}) {
                    Check.due("guest " + guest + ", " + what, it.guest(guest, what), -1);
                }
            }
            Check.due("the least int", it.guest(Integer.MIN_VALUE, 0), -1);
            Check.due("the greatest int", it.guest(Integer.MAX_VALUE, 0), -1);
        }
    }

    public static void main(String[] args) {
        innHasAnyNumberOfLines();
        guestsAreEightAtMost();
        kindsAreFour();
        numbersLieWhereTold();
        signsAreSixAtMost();
        seesNamesAGuestAndSigns();
        shunNamesTwoGuests();
        billIsToldOnce();
        wordsStandWhereTheyCan();
        namesAreOtherWords();
        noTwoNamesAreAlike();
        formulasNameWhatIsTold();
        noItemLiesWithinFive();
        noPartLiesWithinFive();
        theEndIsATokenAtTheTextsLength();
        theFirstWrongTokenCounts();
        anInnSetsAllBack();
        anInnTakesNothingFromThoseBefore();
        aFaultLeavesAll();
        aNewObjectIsNothing();
        guestTakesGuestsAndWhats();
        Check.end();
    }
}

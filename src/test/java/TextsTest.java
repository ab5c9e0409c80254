/** Promises 1 to 4: a new object, feed, and every kind of FAULT of an INN and of a MORNING with its place. */
public final class TextsTest {
    private static final String TOLD = "guest aa plain room 1 stays 1 ; guest bb mad room 2 stays 2 ; "
            + "sign cc errs 1 when aa ; ";

    /** A text that is an INN, or has one FAULT at the sign |, which is left out. */
    private static void inn(int kind, String marked) {
        ExtraGuest it = kept();
        Check.reads(it, true, kind, marked);
        if (kind != 0) {
            allStays(it, marked);
        }
    }

    private static void morning(int kind, String marked) {
        ExtraGuest it = kept();
        Check.reads(it, false, kind, marked);
        if (kind != 0) {
            allStays(it, marked);
        }
    }

    /** An object in which everything is there that a FAULT must not change. */
    private static ExtraGuest kept() {
        ExtraGuest it = Check.at(TOLD + "sees aa cc ; shun aa bb ; bill door ;");
        Check.morning(it, "shows cc ; night ;");
        it.sign(0, true);
        it.night();
        it.weather(2);
        it.hear(0, true);
        it.mark(3, false);
        return it;
    }

    private static void allStays(ExtraGuest it, String why) {
        int[] counts = {2, 1, 2, 1, 2, 1, 3, 0};
        for (int i = 0; i < counts.length; i++) {
            Check.due(why + " and count " + i, it.count(i), counts[i]);
        }
        Check.due(why + " and left", it.left(), 0x44);
        Check.due(why + " and guest", it.guest(0, 1) * 100 + it.guest(0, 3) * 10 + it.guest(0, 4), 112);
        Check.due(why + " and shows", it.shows(0), 1);
        Check.due(why + " and bill", it.bill(9, 1), 6);
        Check.due(why + " and spare", it.spare(), 1);
        Check.due(why + " and same", it.same(0), 1);
        Check.due(why + " and odds", it.odds(0), 818181);
        Check.due(why + " and mark", it.mark(3, true), true);
        Check.due(why + " and mark 0", it.mark(0, true), false);
    }

    private static void newObject() {
        ExtraGuest it = new ExtraGuest();
        for (int i = 0; i < 8; i++) {
            Check.due("count of a new object", it.count(i), 0);
        }
        Check.due("left", it.left(), 0);
        Check.due("who", it.who(), 0);
        Check.due("undo", it.undo(), false);
        Check.due("NONE", ExtraGuest.NONE, -1);
        for (int i = 0; i < 4; i++) {
            Check.due("no mark is there", it.mark(i, true), false);
        }
    }

    private static void feeding() {
        ExtraGuest it = new ExtraGuest();
        Check.due("nothing", it.feed(0, 0, 0), 0);
        Check.due("others", it.feed(-1L, 0x7f80ff1f090b0d01L, Long.MIN_VALUE), 0);
        Check.due("the edges 10, 32, 126", it.feed(0x0a207e1f7f0b0900L, 0, 0), 3);
        Check.due("taken", it.inn(), 1 + 16 * 2);
        // the highest byte first, a before b before c
        Check.due("a, b, c", it.feed(Check.eight("weather ", 0), Check.eight("snow ;ni", 0), Check.eight("ght;", 0)), 20);
        Check.due("in order", it.morning(), 0);
        Check.due("both lines", it.count(4), 2);
        String blanks = " ".repeat(960);
        Check.feed(it, blanks);
        Check.due("room for 40", Check.feed(it, "weather snow ; night ; night"), 988);
        Check.due("12 more fit", Check.feed(it, " ; night ;  % and more"), 1000);
        Check.due("no more", it.feed(Check.eight("night ; ", 0), 0, 0), 1000);
        Check.due("what is beyond is left out", it.morning(), 0);
        Check.due("lines", it.count(4), 4);
    }

    private static void words() {
        inn(0, "");
        inn(0, "  \n ");
        inn(0, "guest\neightlet\nmad\nroom\n12\nstays\n99\n;");
        inn(0, "guest a plain room1stays1;sign b errs0when(a)or not a;sees a b;bill(1)<2;");
        inn(0, "guest a plain room 0012 stays 0099 ; sign b errs 0010 when a ;");
        inn(0, "guest door plain room 1 stays 1 ; guest nights mad room 1 stays 1 ; sign many errs 0 when door or nights ;");
        inn(1, "|inn ;");
        inn(1, "|;");
        inn(1, "|1");
        inn(1, "|Guest aa");
        inn(1, "guest |ninechars mad");
        inn(1, "|guests aa");
        inn(1, "guest aa mad room |00001 stays 1 ;");
        inn(1, "guest aa mad room 1 stays |12345 ;");
        inn(1, "guest aa mad room 1 stays 1 |: ;");
        inn(1, "  |% ");
        for (String reserved : new String[] {"guest", "room", "stays", "sign", "errs", "when", "sees", "shun", "bill",
            "says", "shows", "hides", "weather", "night", "plain", "honest", "liar", "mad", "clear", "snow", "fog",
            "wind", "odd", "low", "alone", "old", "not", "and", "or"}) {
            inn(1, "guest |" + reserved + " mad room 1 stays 1 ;");
            inn(1, "sign |" + reserved + " errs 1 when snow ;");
            inn(1, TOLD + "sees |" + reserved + " cc ;");
            inn(1, TOLD + "sees aa |" + reserved + " ;");
            inn(1, TOLD + "shun aa |" + reserved + " ;");
            inn(1, TOLD + "bill |" + (reserved.equals("not") ? "when" : reserved) + " ;");
        }
    }

    private static void guestLines() {
        inn(1, "guest|");
        inn(1, "guest  |");
        inn(1, "guest |1 mad");
        inn(1, "guest aa |room 1");
        inn(1, "guest aa |bb room 1");
        inn(1, "guest aa mad |stays 1");
        inn(1, "guest aa mad room |stays 1");
        inn(4, "guest aa mad room |0 stays 1 ;");
        inn(4, "guest aa mad room |13 stays 1 ;");
        inn(4, "guest aa mad room |9999stays 1 ;");
        inn(1, "guest aa mad room 12 |room 1 ;");
        inn(4, "guest aa mad room 12 stays |0 ;");
        inn(4, "guest aa mad room 12 stays |100 ;");
        inn(1, "guest aa mad room 12 stays |;");
        inn(1, "guest aa mad room 12 stays 99 |guest bb");
        inn(1, "guest aa mad room 12 stays 99|");
        inn(3, TOLD + "guest |aa mad room 1 stays 1 ;");
        inn(3, TOLD + "guest |cc mad room 1 stays 1 ;");
        StringBuilder eight = new StringBuilder();
        for (char c = 'a'; c < 'i'; c++) {
            eight.append("guest ").append(c).append(" mad room 1 stays 1;");
        }
        inn(0, eight.toString());
        inn(5, eight + "|guest a");
        inn(5, eight + "sign x errs 0 when a;|guest");
    }

    private static void signLines() {
        inn(3, TOLD + "sign |aa errs 1 when aa ;");
        inn(3, TOLD + "sign |cc errs 1 when aa ;");
        inn(1, TOLD + "sign dd |when aa ;");
        inn(1, TOLD + "sign dd errs |when aa ;");
        inn(4, TOLD + "sign dd errs |11 when aa ;");
        inn(0, TOLD + "sign dd errs 10 when aa ;");
        inn(0, TOLD + "sign dd errs 0 when cc ;");
        inn(1, TOLD + "sign dd errs 1 |aa ;");
        inn(1, TOLD + "sign dd errs 1 when |;");
        inn(2, TOLD + "sign dd errs 1 when |dd ;");
        inn(2, TOLD + "sign dd errs 1 when |ee ; sign ee errs 1 when aa ;");
        inn(1, TOLD + "sign dd errs 1 when aa |aa ;");
        inn(1, TOLD + "sign dd errs 1 when aa and |or aa ;");
        inn(1, TOLD + "sign dd errs 1 when aa or |;");
        inn(1, TOLD + "sign dd errs 1 when ( aa |;");
        inn(1, TOLD + "sign dd errs 1 when aa |) ;");
        inn(1, TOLD + "sign dd errs 1 when ( |) ;");
        inn(1, TOLD + "sign dd errs 1 when |1 ;");
        inn(1, TOLD + "sign dd errs 1 when aa |= bb ;");
        inn(1, TOLD + "sign dd errs 1 when |mad ;");
        inn(0, TOLD + "sign dd errs 1 when clear and snow or fog and wind or odd and low or alone and old or cc ;");
        inn(0, TOLD + "sign dd errs 1 when not not not not aa and ( ( ( ( aa ) ) ) ) or ( not ( not aa ) ) ;");
        inn(5, TOLD + "sign dd errs 1 when not not not not not |aa ;");
        inn(5, TOLD + "sign dd errs 1 when not not not not not |not aa ;");
        inn(5, TOLD + "sign dd errs 1 when ( ( ( ( ( |aa ) ) ) ) ) ;");
        inn(5, TOLD + "sign dd errs 1 when ( not ( not ( |( aa");
        inn(5, TOLD + "sign dd errs 1 when ( ( ( ( not |snow");
        inn(2, TOLD + "sign dd errs 1 when ( ( ( ( not |ee");
        inn(1, TOLD + "sign dd errs 1 when ( ( ( ( not |;");
        inn(1, TOLD + "sign dd errs 1 when ( ( ( ( not|");
        String six = TOLD + "sign s errs 0 when aa; sign t errs 0 when s; sign u errs 0 when t; "
                + "sign v errs 0 when u; sign w errs 0 when v;";
        inn(0, six);
        inn(5, six + "|sign aa errs");
    }

    private static void linkLines() {
        inn(2, TOLD + "sees |cc cc ;");
        inn(2, TOLD + "sees |xx cc ;");
        inn(1, TOLD + "sees |; ");
        inn(1, TOLD + "sees aa |;");
        inn(2, TOLD + "sees aa |bb ;");
        inn(2, TOLD + "sees aa cc |xx ;");
        inn(3, TOLD + "sees aa cc |cc ;");
        inn(3, TOLD + "sees aa cc ; sees |aa cc ;");
        inn(1, TOLD + "sees aa cc |1 ;");
        inn(1, TOLD + "sees aa cc |sees");
        inn(1, TOLD + "sees aa cc|");
        inn(0, TOLD + "sees aa cc ; sees bb cc ;");
        inn(2, TOLD + "sees aa |dd ; sign dd errs 0 when aa ;");
        inn(2, "sees |aa cc ;" + TOLD);
        inn(2, TOLD + "shun |cc aa ;");
        inn(2, TOLD + "shun aa |cc ;");
        inn(2, TOLD + "shun |xx aa ;");
        inn(3, TOLD + "shun aa |aa ;");
        inn(0, TOLD + "shun aa bb ;");
        inn(3, TOLD + "shun aa bb ; shun aa |bb ;");
        inn(3, TOLD + "shun aa bb ; shun bb |aa ;");
        inn(1, TOLD + "shun aa bb |aa ;");
        inn(1, TOLD + "shun aa |;");
        inn(1, TOLD + "shun|");
    }

    private static void billLines() {
        inn(0, TOLD + "bill 1 ;");
        inn(0, "bill door * nights + many - 9999 < 0 and not 3 = ( 2 or 0 ) ;");
        inn(3, TOLD + "bill 1 ; |bill 2 ;");
        inn(3, TOLD + "bill 1 ; |bill");
        inn(1, TOLD + "bill |;");
        inn(1, TOLD + "bill|");
        inn(1, TOLD + "bill |aa ;");
        inn(1, TOLD + "bill |- 1 ;");
        inn(1, TOLD + "bill 1 |2 ;");
        inn(1, TOLD + "bill 1 + |;");
        inn(1, TOLD + "bill 1 * |* 2 ;");
        inn(1, TOLD + "bill 1 < 2 |< 3 ;");
        inn(1, TOLD + "bill 1 = 2 |= 3 ;");
        inn(1, TOLD + "bill 1 < |< 3 ;");
        inn(1, TOLD + "bill ( 1 |;");
        inn(1, TOLD + "bill 1 |) ;");
        inn(1, TOLD + "bill ( |) ;");
        inn(1, TOLD + "bill 1 and |or 1 ;");
        inn(1, TOLD + "bill |10000 ;");
        inn(0, TOLD + "bill not not not not 1 + ( ( ( ( door ) ) ) ) ;");
        inn(5, TOLD + "bill not not not not not |1 ;");
        inn(5, TOLD + "bill not not not not not |not 1 ;");
        inn(5, TOLD + "bill ( ( ( ( ( |door ) ) ) ) ) ;");
        inn(5, TOLD + "bill ( not ( not ( |( 1 ;");
        inn(1, TOLD + "bill ( not ( not ( |aa ;");
        inn(1, TOLD + "bill ( not ( not (|");
    }

    private static void mornings() {
        morning(0, "");
        morning(0, "says aa bb ; shows cc ; hides cc ; weather clear ; weather wind ; night ;");
        morning(0, "says aa not(bb or cc)and snow;night;");
        morning(1, "|guest");
        morning(1, "|aa");
        morning(1, "|;");
        morning(1, "night ; |1");
        morning(1, "says |; ");
        morning(1, "says |snow aa ;");
        morning(2, "says |cc aa ;");
        morning(2, "says |xx aa ;");
        morning(1, "says aa |;");
        morning(1, "says aa|");
        morning(2, "says aa |xx ;");
        morning(1, "says aa bb |bb ;");
        morning(1, "says aa ( bb |;");
        morning(5, "says aa not not not not not |bb ;");
        morning(2, "says aa not not not not not |xx ;");
        morning(1, "says aa |12 ;");
        morning(1, "says aa |abcdefghi ;");
        morning(1, "says aa bb|");
        morning(2, "shows |aa ;");
        morning(2, "shows |xx ;");
        morning(1, "shows |;");
        morning(1, "shows |snow ;");
        morning(1, "shows cc |cc ;");
        morning(2, "hides |bb ;");
        morning(1, "hides |night ;");
        morning(1, "hides cc|");
        morning(1, "weather |rain ;");
        morning(1, "weather |aa ;");
        morning(1, "weather |odd ;");
        morning(1, "weather |;");
        morning(1, "weather snow |fog ;");
        morning(1, "night |night ;");
        morning(1, "night|");
        String full = "night;".repeat(24);
        morning(0, full);
        morning(0, "says aa aa;".repeat(24));
        morning(5, full + "|night");
        morning(5, full + "|says xx");
        morning(5, full + " |shows");
        morning(5, full + " |hides");
        morning(5, full + "\n|weather");
        morning(1, full + "|guest");
        morning(1, full + "|xx");
        morning(1, full + "|;");
        withoutInn();
    }

    private static void withoutInn() {
        ExtraGuest it = new ExtraGuest();
        Check.due("no guest is told", Check.morning(it, "says aa snow ;"), 2 + 16 * 5);
        Check.due("no sign is told", Check.morning(it, "shows cc ;"), 2 + 16 * 6);
        Check.due("weather and night can", Check.morning(it, "weather fog ; night ; weather fog ;"), 0);
        Check.due("three lines", it.count(4), 3);
        Check.due("no world goes with it", it.judged(0), 0);
        Check.due("none is left", it.judged(1), 0);
        Check.due("each is spare", it.spare(), 7);
        Check.due("an empty inn", it.inn(), 0);
        Check.due("no morning is there now", it.count(4), 0);
    }

    private static void nextInn() {
        ExtraGuest it = kept();
        Check.due("another inn", Check.inn(it, "guest x liar room 5 stays 7 ; sign y errs 3 when x ;"), 0);
        int[] counts = {1, 1, 4, 0, 0, 0, 0, 0};
        for (int i = 0; i < counts.length; i++) {
            Check.due("of the next inn count " + i, it.count(i), counts[i]);
        }
        Check.due("sees nothing", it.guest(0, 3), 0);
        Check.due("shuns nobody", it.guest(0, 4), 0);
        Check.due("no mark", it.mark(3, true), false);
        Check.due("no undo", it.undo(), false);
        Check.due("the law is 1 again", it.bill(5, 0), 5);
        Check.due("names of the last inn are gone", Check.morning(it, "says aa x ;"), 2 + 16 * 5);
        Check.due("a new morning", Check.morning(it, "says x x ; night ;"), 0);
        Check.due("two lines", it.count(4), 2);
        Check.due("a shorter one", Check.morning(it, "night ;"), 0);
        Check.due("one line", it.count(4), 1);
        Check.due("a morning leaves the rest", it.count(2), 4);
        Check.due("an empty text is an inn without guests", it.inn(), 0);
        Check.due("no world", it.left(), 0);
        Check.due("no guest", it.count(0), 0);
    }

    public static void main(String[] args) {
        newObject();
        feeding();
        words();
        guestLines();
        signLines();
        linkLines();
        billLines();
        mornings();
        nextInn();
        Check.end();
    }
}

import java.util.LinkedHashMap;
import java.util.Map;
import java.util.function.Supplier;
import java.util.function.ToLongFunction;

/** The empty cases and the full ones of all promises, and that a refused call leaves all as it was. */
public final class EmptyAndFullTest {

    /** Refused in whatever state, each by its promise's number; NONE unless the name ends with another due. */
    private static Map<String, ToLongFunction<ExtraGuest>> refusedAlways() {
        Map<String, ToLongFunction<ExtraGuest>> calls = new LinkedHashMap<>();
        calls.put("5: guest -1", it -> it.guest(-1, 0));
        calls.put("5: guest 8", it -> it.guest(8, 0));
        calls.put("5: what 5", it -> it.guest(0, 5));
        calls.put("6: world -1", it -> it.shows(-1));
        calls.put("6: world 32", it -> it.shows(32));
        calls.put("8: asked -1", it -> it.answer(-1, 0, true));
        calls.put("8: asked 8", it -> it.answer(8, 0, true));
        calls.put("8: about -1", it -> it.answer(0, -1, false));
        calls.put("8: about 8", it -> it.answer(0, 8, false));
        calls.put("9: sign -1", it -> it.sign(-1, true));
        calls.put("9: sign 6", it -> it.sign(6, false));
        calls.put("10: weather -1", it -> it.weather(-1));
        calls.put("10: weather 4", it -> it.weather(4));
        calls.put("13: what 3 = -2", it -> it.judged(3));
        calls.put("19: guest 8", it -> it.knows(8, 0));
        calls.put("20: the same", it -> it.sure(0, 0, 0));
        calls.put("21: what 2", it -> it.rounds(0, 2));
        calls.put("22: world 32", it -> it.common(32));
        calls.put("23: sign -1 = 0", it -> it.hear(-1, true) ? 1 : 0);
        calls.put("23: sign 6 = 0", it -> it.hear(6, false) ? 1 : 0);
        calls.put("25: guest 8", it -> it.odds(8));
        calls.put("26: what 2", it -> it.errors(0, 0, 2));
        calls.put("27: room 9", it -> it.hunt(10));
        calls.put("28: what 2 = -2", it -> it.same(2));
        calls.put("29: pennies 10000", it -> it.bill(10000, 0));
        calls.put("29: pennies -1", it -> it.bill(-1, 0));
        calls.put("30: guest 8 = -2", it -> it.beds(8));
        calls.put("31: many 3", it -> it.watch(3, 0));
        calls.put("31: far 12", it -> it.watch(1, 12));
        calls.put("32: nights 101", it -> it.years(0, 101, 0));
        calls.put("33: mark 4 = 0", it -> it.mark(4, false) ? 1 : 0);
        calls.put("33: mark -1 = 0", it -> it.mark(-1, false) ? 1 : 0);
        calls.put("33: back to mark 4 = 0", it -> it.mark(4, true) ? 1 : 0);
        calls.put("34: what 8", it -> it.count(8));
        return calls;
    }

    private static void refuse(String state, Supplier<ExtraGuest> made, Map<String, ToLongFunction<ExtraGuest>> calls) {
        for (Map.Entry<String, ToLongFunction<ExtraGuest>> call : calls.entrySet()) {
            String[] parts = call.getKey().split(" = ");
            Check.about("Promise " + parts[0] + ", " + state);
            Twins.refused(parts[0], made, call.getValue(), parts.length > 1 ? Integer.parseInt(parts[1]) : -1);
        }
    }

    /** In a used object d, f and g are LEFT, p is shown and hidden by them, and MARKS 1 and 2 are not laid. */
    private static Map<String, ToLongFunction<ExtraGuest>> refusedWhenUsed() {
        Map<String, ToLongFunction<ExtraGuest>> calls = new LinkedHashMap<>();
        calls.put("8: it can't be that b says it is a", it -> it.answer(1, 0, true));
        calls.put("9: it can't be that r hides", it -> it.sign(2, false));
        calls.put("19: not left", it -> it.knows(0, 0));
        calls.put("20: not left", it -> it.sure(0, 1, 0));
        calls.put("21: not left", it -> it.rounds(0, 0));
        calls.put("22: not left", it -> it.common(0));
        calls.put("26: a is in no world left", it -> it.errors(0, 0, 1));
        calls.put("33: nothing is on mark 1 = 0", it -> it.mark(1, true) ? 1 : 0);
        calls.put("33: nothing is on mark 2 = 0", it -> it.mark(2, true) ? 1 : 0);
        return calls;
    }

    private static Map<String, ToLongFunction<ExtraGuest>> refusedWhenFull() {
        Map<String, ToLongFunction<ExtraGuest>> calls = new LinkedHashMap<>();
        calls.put("2: a sign beyond 1,000 = 1000", it -> it.feed(Check.eight(";", 0), 0, 0));
        calls.put("2: 24 signs beyond 1,000 = 1000", it -> Check.feed(it, "%".repeat(24)));
        calls.put("11: 10 nights ended", ExtraGuest::night);
        calls.put("23: 8 are heard = 0", it -> it.hear(0, true) ? 1 : 0);
        return calls;
    }

    private static Map<String, ToLongFunction<ExtraGuest>> refusedWhenEmpty() {
        Map<String, ToLongFunction<ExtraGuest>> calls = new LinkedHashMap<>();
        calls.put("2: nothing is fed = 0", it -> it.feed(0, 0, 0));
        calls.put("5: no guest", it -> it.guest(0, 0));
        calls.put("6: no world", it -> it.shows(0));
        calls.put("7: no world = 0", ExtraGuest::left);
        calls.put("8: no guest", it -> it.answer(0, 0, false));
        calls.put("10: no world", it -> it.weather(0));
        calls.put("11: no guest", ExtraGuest::night);
        calls.put("12: nothing can be undone = 0", it -> it.undo() ? 1 : 0);
        calls.put("13: all lines can", it -> it.judged(0));
        calls.put("13: no world = 0", it -> it.judged(1));
        calls.put("13: nobody is sure", it -> it.judged(2));
        calls.put("14: no line = 0", ExtraGuest::spare);
        calls.put("15: nobody = 0", ExtraGuest::who);
        calls.put("16: no question", ExtraGuest::ask);
        calls.put("17: nobody can be", ExtraGuest::fewest);
        calls.put("18: nothing is needed = 0", ExtraGuest::tell);
        calls.put("19: no guest", it -> it.knows(0, 0));
        calls.put("20: no guests", it -> it.sure(0, 1, 0));
        calls.put("21: no world", it -> it.rounds(0, 0));
        calls.put("22: no world", it -> it.common(0));
        calls.put("24: nobody", ExtraGuest::likely);
        calls.put("25: no guest", it -> it.odds(0));
        calls.put("26: no guest", it -> it.errors(0, 0, 0));
        calls.put("27: no guest", it -> it.hunt(0));
        calls.put("27: no guest, how many rooms", it -> it.hunt(1));
        calls.put("27: no guest, the first room", it -> it.hunt(2));
        calls.put("28: nobody = 0", it -> it.same(0));
        calls.put("28: by the night now = 0", it -> it.same(1));
        calls.put("29: no guest", it -> it.bill(0, 0));
        calls.put("30: no rooms = 0", it -> it.beds(-1));
        calls.put("30: no guest = -2", it -> it.beds(0));
        calls.put("31: nobody need stay awake = 0", it -> it.watch(1, 0));
        calls.put("31: nobody need stay awake, two each = 0", it -> it.watch(2, 11));
        calls.put("32: no guest", it -> it.years(0, 1, 0));
        calls.put("33: nothing is on mark 0 = 0", it -> it.mark(0, true) ? 1 : 0);
        calls.put("33: nothing is on mark 3 = 0", it -> it.mark(3, true) ? 1 : 0);
        return calls;
    }

    private static Map<String, ToLongFunction<ExtraGuest>> withoutSigns() {
        Map<String, ToLongFunction<ExtraGuest>> calls = new LinkedHashMap<>();
        calls.put("5: sees none = 0", it -> it.guest(0, 3));
        calls.put("5: shuns nobody = 0", it -> it.guest(0, 4));
        calls.put("6: none shows = 0", it -> it.shows(31));
        calls.put("9: no sign", it -> it.sign(0, false));
        calls.put("18: not all together", ExtraGuest::tell);
        calls.put("19: all can be = 255", it -> it.knows(7, 31));
        calls.put("20: nobody knows = 0", it -> it.sure(0, 1, 0));
        calls.put("21: nobody ever", it -> it.rounds(0, 1));
        calls.put("22: all can be = 255", it -> it.common(0));
        calls.put("23: no sign = 0", it -> it.hear(0, true) ? 1 : 0);
        calls.put("24: of equal ones the first = 0", ExtraGuest::likely);
        calls.put("26: no sign", it -> it.errors(0, 0, 0));
        calls.put("29: without a law each has 1 = 2", it -> it.bill(9, 0));
        calls.put("29: without a law, the last = 1", it -> it.bill(9, 7));
        calls.put("32: never told = 0", it -> it.years(0, 100, 0));
        calls.put("32: no signs = 0", it -> it.years(0, 100, 2));
        return calls;
    }

    /** As much as can be, and one more, by texts: these leave all but the TAPE. */
    private static void oneMoreInATextLeavesAll() {
        String[] texts = {Inns.guests(8) + "guest i mad room 1 stays 1;", Inns.signs(6) + "sign x errs 0 when snow;",
            Inns.full() + "sees a p;", Inns.full() + "shun h a;", Inns.full() + "bill 1;"};
        String full = Inns.full();
        int[] due = {5 + 16 * Inns.guests(8).length(), 5 + 16 * Inns.signs(6).length(), 3 + 16 * (full.length() + 5),
            3 + 16 * (full.length() + 7), 3 + 16 * full.length()};
        for (int i = 0; i < texts.length; i++) {
            String text = texts[i];
            int fault = due[i];
            Check.about("Promise 3, one more than full: " + text.substring(text.lastIndexOf(';', text.length() - 2) + 1));
            Twins.same("a full object", EmptyAndFullTest::brimmingButTape, it -> { },
                    it -> Check.due("inn", Check.inn(it, text), fault));
        }
        Check.about("Promise 4, one more than full: a 25th line");
        Twins.same("a full object", EmptyAndFullTest::brimmingButTape, it -> { },
                it -> Check.due("morning", Check.morning(it, "night;".repeat(25)), 5 + 16 * 144));
    }

    private static ExtraGuest brimmingButTape() {
        ExtraGuest it = Inns.brimming();
        Check.due("the tape is read", it.morning(), 0);
        Check.due("24 lines", Check.morning(it, "night;".repeat(23) + "hides q;"), 0);
        return it;
    }

    private static void undoesAllThatIsFull() {
        Check.about("Promise 12: 16 are undone, and no more");
        ExtraGuest it = Inns.brimming();
        for (int i = 0; i < 16; i++) {
            Check.due("undo " + i, it.undo(), true);
        }
        Twins.refused("a seventeenth", () -> {
            ExtraGuest other = Inns.brimming();
            for (int i = 0; i < 16; i++) {
                other.undo();
            }
            return other;
        }, other -> other.undo() ? 1 : 0, 0);
        Check.due("one night can't be undone", it.count(3), 1);
    }

    private static void anEmptyTape() {
        Check.about("Promise 3 and 4: an empty TAPE is an INN without GUESTS, and a MORNING without lines");
        Twins.refused("inn of a new object", ExtraGuest::new, ExtraGuest::inn, 0);
        Twins.refused("morning of a new object", ExtraGuest::new, ExtraGuest::morning, 0);
        Twins.same("a morning without lines", () -> Check.at(Inns.rich()), it -> { }, it -> {
            Check.morning(it, "night;shows p;");
            Check.due("none", it.morning(), 0);
        });
    }

    private static void fiveHundredTwelveCalls() {
        Check.about("An object is used for at most 512 calls: the last ones answer as the first ones do");
        ExtraGuest it = new ExtraGuest();
        Check.due("fed", Check.feed(it, Inns.guests(1)), 27);
        it.inn();
        // the tape's count, two feeds and inn are four; each turn has four more
        for (int calls = 4; calls < 508; calls += 4) {
            Check.due("weather", it.weather(calls / 4 % 4), 1);
            Check.due("undo", it.undo(), true);
            Check.due("night", it.night(), 1);
            Check.due("undo", it.undo(), true);
        }
        Check.due("the 509th", it.weather(3), 1);
        Check.due("the 510th", it.left(), 8);
        Check.due("the 511th", it.undo(), true);
        Check.due("the 512th", it.undo(), false);
    }

    public static void main(String[] args) {
        refuse("used", Inns::used, refusedAlways());
        refuse("used", Inns::used, refusedWhenUsed());
        refuse("full", Inns::brimming, refusedAlways());
        refuse("full", Inns::brimming, refusedWhenFull());
        refuse("no inn", ExtraGuest::new, refusedAlways());
        refuse("no inn", ExtraGuest::new, refusedWhenEmpty());
        refuse("no guests, six signs, a law", () -> Check.at(Inns.signs(6) + "bill 5;"), refusedWhenEmpty());
        refuse("no signs, no law", () -> Check.at(Inns.guests(8)), withoutSigns());
        oneMoreInATextLeavesAll();
        undoesAllThatIsFull();
        anEmptyTape();
        fiveHundredTwelveCalls();
        Check.end();
    }
}

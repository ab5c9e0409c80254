/** Bounds of MORNING ("Terms", part 1), of JUDGED and SPARE (part 2), and of promises 4, 13 and 14. */
public final class MorningBoundsTest {
    private static final String TOLD = Inns.kinds("phlm") + Inns.sign(0, 1, "snow and a or b");
    private static final String[] LINES = {"says a b;", "shows p;", "hides p;", "weather snow;", "night;"};

    private static void morning(int kind, String marked) {
        Check.reads(Check.at(TOLD), false, kind, marked);
    }

    private static void morningHasTwentyFourLinesAtMost() {
        Check.about("MORNING: 24 lines at most; 5: the first word of a 25th line; promise 34, what 4");
        for (String line : LINES) {
            for (int many = 0; many <= 24; many++) {
                ExtraGuest it = Check.at(TOLD);
                Check.due(many + " times " + line, Check.morning(it, line.repeat(many)), 0);
                Check.due("lines", it.count(4), many);
            }
            String word = line.replaceAll("[ ;].*", "");
            for (String full : new String[] {line.repeat(24), "night;".repeat(24)}) {
                morning(5, full + "|" + line);
                morning(5, full + "|" + word);
                morning(5, full + "|" + word + " x %");
            }
        }
        Check.about("FAULTS: of the first wrong token the least, at a 25th line");
        String full = "night;".repeat(24);
        for (String other : new String[] {"guest", "bill", "a", "p", "snow", "mad", "ninechars", ";", "(", "1", "10000", "%"}) {
            morning(1, full + "|" + other);
        }
        Check.about("MORNING: any number of lines, 24 of the longest");
        morning(0, ("says a" + " not".repeat(4) + " a and snow;").repeat(24));
    }

    private static void linesNameGuestsAndSigns() {
        Check.about("MORNING: lines begin with says, shows, hides, weather, night; FAULTS: 1 it can't stand there");
        for (String other : new String[] {"guest", "room", "stays", "sign", "errs", "when", "sees", "shun", "bill", "plain",
            "honest", "liar", "mad", "clear", "snow", "fog", "wind", "odd", "low", "alone", "old", "not", "and", "or", "a", "p"}) {
            morning(1, "|" + other + " p;");
            morning(1, "night;|" + other + " p;");
        }
        Check.about("MORNING: says NAME (a GUEST); 2: a NAME of no GUEST");
        morning(2, "says |p a;");
        morning(2, "says |x a;");
        morning(1, "says |night a;");
        morning(0, "says a a;says b a;says c a;says d a;");
        Check.about("MORNING: shows NAME, hides NAME (SIGNS); 2: a NAME of no SIGN");
        for (String word : new String[] {"shows", "hides"}) {
            morning(2, word + " |a;");
            morning(2, word + " |x;");
            morning(1, word + " |snow;");
            morning(1, word + " |;");
            morning(1, word + " p |p;");
            morning(0, word + " p;");
        }
        Check.about("MORNING: weather WEATHER");
        for (String weather : new String[] {"clear", "snow", "fog", "wind"}) {
            morning(0, "weather " + weather + ";");
        }
        for (String other : new String[] {"odd", "mad", "a", "p", "x", "1", ";", "night"}) {
            morning(1, "weather |" + other + ";");
        }
        Check.about("MORNING: night");
        morning(1, "night |a;");
        morning(1, "night|");
        Check.about("FORMULA of a MORNING: 2: of neither told; 5: within 5 others");
        morning(2, "says a |x;");
        morning(0, "says a not not not not p;");
        morning(5, "says a not not not not not |p;");
        morning(5, "says a (((((|a)))));");
        morning(2, "says a (((((|x)))));");
        morning(1, "says a (((((|;");
        morning(1, "says a |;");
    }

    private static void withoutGuestsOrSigns() {
        Check.about("MORNING without an INN, without GUESTS, without SIGNS");
        for (String told : new String[] {"", Inns.signs(1), Inns.guests(1)}) {
            for (String line : LINES) {
                boolean guest = line.startsWith("says");
                boolean sign = line.endsWith("p;");
                boolean good = !(guest || sign && !told.startsWith("sign"));
                ExtraGuest it = Check.at(told);
                int place = line.indexOf(' ') + 1;
                int due = good ? 0 : guest && told.startsWith("guest") ? 2 + 16 * 7 : 2 + 16 * place;
                Check.due(line + " in " + told, Check.morning(it, line), due);
                Check.due("lines", it.count(4), good ? 1 : 0);
            }
        }
        ExtraGuest it = new ExtraGuest();
        Check.due("no text", it.morning(), 0);
        Check.due("no lines", it.count(4), 0);
    }

    private static void aMorningIsTheMorning() {
        Check.about("Promise 4: a MORNING is the MORNING: the next one takes its place, and nothing else changes");
        ExtraGuest it = Check.at(TOLD);
        Check.morning(it, "weather snow;".repeat(24));
        Check.due("24", it.count(4), 24);
        Check.due("one", Check.morning(it, "says b b;"), 0);
        Check.due("one", it.count(4), 1);
        Check.due("judged anew", it.judged(2), 1);
        Check.due("an empty text", it.morning(), 0);
        Check.due("no line", it.count(4), 0);
        Check.due("all worlds", it.judged(1), 16);
        Twins.same("a morning and the one before it", Inns::used, ExtraGuest::morning, other -> {
            other.morning();
            Check.due("another", Check.morning(other, "night;night;"), 0);
            Check.due("the first again", Check.morning(other,
                    "says b not c;shows p;says a f or g;weather fog;hides u;night;says c d;"), 0);
        });
        Check.about("Promise 4: likewise: the FAULT of a MORNING leaves all but the TAPE");
        String[] faulty = {"%", "says x", "shows a", "night;".repeat(24) + "night", "says a not not not not not a", "guest"};
        int[] due = {1, 2 + 16 * 5, 2 + 16 * 6, 5 + 16 * 144, 5 + 16 * 27, 1};
        for (int i = 0; i < faulty.length; i++) {
            String text = faulty[i];
            int fault = due[i];
            Twins.same("morning of " + text, Inns::used, ExtraGuest::morning, other -> {
                other.morning();
                Check.due(text, Check.morning(other, text), fault);
            });
        }
    }

    private static void judge(String told, String text, int first, int worlds, int one, int spare) {
        ExtraGuest it = Check.at(told);
        Check.due(text, Check.morning(it, text), 0);
        Check.due("judged 0 of " + text, it.judged(0), first);
        Check.due("judged 1 of " + text, it.judged(1), worlds);
        Check.due("judged 2 of " + text, it.judged(2), one);
        Check.due("spare of " + text, it.spare(), spare);
    }

    private static void judgedTellsTheFirstLine() {
        Check.about("JUDGED: the first line (from 0) with which no WORLD LEFT goes; promise 13, NONE: all can");
        judge(TOLD, "", -1, 16, -1, 0);
        judge(TOLD, "says a a;", 0, 16, -1, 1);
        judge(TOLD, "weather snow;weather fog;", 1, 4, -1, 2);
        judge(TOLD, "weather fog;" + "weather fog;".repeat(22) + "weather snow;", 23, 4, -1, 0xffffff);
        judge(TOLD, "weather fog;" + "weather snow;".repeat(23), 1, 4, -1, 0xfffffe);
        judge(TOLD, "weather fog;" + "weather fog;".repeat(23), -1, 4, -1, 0xffffff);
        judge(TOLD, "shows p;", -1, 5, -1, 0);
        judge(TOLD, "hides p;", -1, 11, -1, 0);
        judge(TOLD, "shows p;hides p;", 1, 5, -1, 2);
        judge(TOLD, "hides p;shows p;", 1, 11, -1, 2);
        Check.about("JUDGED: it is left out");
        judge(TOLD, "weather fog;weather snow;says b b;", 1, 1, 1, 2);
        judge(TOLD, "weather fog;weather snow;weather clear;says b a;", 1, 1, 0, 6);
        Check.about("JUDGED: night always can, beyond ten too");
        judge(TOLD, "night;".repeat(24), -1, 16, -1, 0xffffff);
        judge(TOLD, "says b b;" + "night;".repeat(23), -1, 16, -1, 0xffffff);
        judge(TOLD, "says b b;" + "night;".repeat(22) + "says b c;", -1, 4, 2, 0x7fffff);
        judge(TOLD, "says b b;night;says b c;", -1, 4, 2, 1);
        judge("", "night;weather fog;night;", 1, 0, -1, 7);
        judge(Inns.signs(1), "night;shows p;hides p;", 1, 0, -1, 7);
        judge("", "", -1, 0, -1, 0);
    }

    private static void judgedCountsWorldsAndTellsTheOne() {
        Check.about("JUDGED: how many WORLDS are LEFT at last; the ONE, if he is sure then");
        String eight = Inns.kinds("hmmmmmmm");
        judge(eight, "", -1, 32, -1, 0);
        judge(eight, "weather wind;", -1, 8, -1, 0);
        judge(eight, "says a a;", -1, 4, 0, 0);
        judge(eight, "says a h;weather wind;", -1, 1, 7, 0);
        judge(eight, "says a h or g;weather wind;", -1, 2, -1, 0);
        judge(eight, "says a not h;", -1, 28, -1, 0);
        judge(Inns.guests(1), "", -1, 4, 0, 0);
        Check.about("Promise 13, -2: others");
        ExtraGuest it = Check.at(eight);
        for (int what : new int[] {-1, 3, -2, 4, Integer.MIN_VALUE, Integer.MAX_VALUE}) {
            Check.due("judged " + what, it.judged(what), -2);
            Check.due("without an inn", new ExtraGuest().judged(what), -2);
        }
    }

    private static void judgedStartsFromAllWorlds() {
        Check.about("JUDGED: the MORNING from all WORLDS LEFT, no night ended; it changes nothing");
        String text = "says b not c;weather snow;night;says b b;";
        ExtraGuest it = Check.at(TOLD);
        it.answer(1, 2, true);
        it.night();
        it.answer(1, 0, true);
        it.weather(3);
        Check.due(text, Check.morning(it, text), 0);
        Check.due("all can", it.judged(0), -1);
        Check.due("four", it.judged(1), 4);
        Check.due("b", it.judged(2), 1);
        Check.due("of the night before only", it.spare(), 3);
        Check.due("left by hand", it.left(), 8);
        Check.due("nights by hand", it.count(3), 1);
        Check.due("undo by hand", it.count(6), 4);
    }

    private static void spareLeavesOutEachAlone() {
        Check.about("SPARE: lines without which, each alone, just the same WORLDS would be LEFT at last");
        judge(TOLD, "weather snow;", -1, 4, -1, 0);
        judge(TOLD, "weather snow;weather snow;", -1, 4, -1, 3);
        judge(TOLD, "weather snow;says b a;", -1, 1, 0, 0);
        judge(TOLD, "says d a;", -1, 16, -1, 1);
        // as many worlds, but not the same: without the first line the second one can be
        judge(TOLD, "weather snow;weather fog;weather snow;weather snow;", 1, 4, -1, 14);
        judge(TOLD, "night;weather wind;", -1, 4, -1, 1);
        judge(TOLD, "weather wind;night;", -1, 16, -1, 1);
        judge(TOLD, "says d a;".repeat(23) + "says b b;", -1, 4, 1, 0x7fffff);
        judge(TOLD, "says b b;" + "says d a;".repeat(23), -1, 4, 1, 0xfffffe);
        Check.due("promise 14 without an inn", new ExtraGuest().spare(), 0);
    }

    public static void main(String[] args) {
        morningHasTwentyFourLinesAtMost();
        linesNameGuestsAndSigns();
        withoutGuestsOrSigns();
        aMorningIsTheMorning();
        judgedTellsTheFirstLine();
        judgedCountsWorldsAndTellsTheOne();
        judgedStartsFromAllWorlds();
        spareLeavesOutEachAlone();
        Check.end();
    }
}

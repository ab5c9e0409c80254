/** Numbers below and above what is told, the least and the greatest int, and an object with no INN. */
public final class WrongInputsTest {
    private static final int[] FAR = {Integer.MIN_VALUE, Integer.MIN_VALUE + 1, -65536, -33, -3, 32, 33, 64, 65536,
        Integer.MAX_VALUE - 1, Integer.MAX_VALUE};

    private static void wrong(ExtraGuest it, int n) {
        int good = 0;
        Check.due("guest", it.guest(n, 0), -1);
        Check.due("guest", it.guest(good, n), -1);
        Check.due("shows", it.shows(n), -1);
        Check.due("answer", it.answer(n, good, true), -1);
        Check.due("answer", it.answer(good, n, false), -1);
        Check.due("answer", it.answer(n, n, true), -1);
        Check.due("sign", it.sign(n, true), -1);
        Check.due("weather", it.weather(n), -1);
        Check.due("judged", it.judged(n), -2);
        Check.due("knows", it.knows(n, good), -1);
        Check.due("knows", it.knows(good, n), -1);
        Check.due("sure", it.sure(n, good, good), -1);
        Check.due("sure", it.sure(good, n, good), -1);
        Check.due("sure", it.sure(good, 1, n), -1);
        Check.due("rounds", it.rounds(n, good), -1);
        Check.due("rounds", it.rounds(good, n), -1);
        Check.due("common", it.common(n), -1);
        Check.due("hear", it.hear(n, true), false);
        Check.due("odds", it.odds(n), -1);
        Check.due("errors", it.errors(n, good, good), -1);
        Check.due("errors", it.errors(good, n, good), -1);
        Check.due("errors", it.errors(good, good, n), -1);
        Check.due("hunt", it.hunt(n), -1);
        Check.due("same", it.same(n), -2);
        Check.due("bill", it.bill(good, n), -1);
        Check.due("beds", it.beds(n), -2);
        Check.due("watch", it.watch(n, good), -1);
        Check.due("watch", it.watch(1, n), -1);
        Check.due("years", it.years(good, 1, n), -1);
        Check.due("mark", it.mark(n, false), false);
        Check.due("mark", it.mark(n, true), false);
        Check.due("count", it.count(n), -1);
        if (n < 0 || n > 10000) {
            Check.due("bill", it.bill(n, good), -1);
            Check.due("years", it.years(n, 1, good), -1);
            Check.due("years", it.years(good, n, good), -1);
        }
    }

    private static void nothingDone(ExtraGuest it, int worlds) {
        Check.due("nothing is done: left", it.count(2), worlds);
        for (int what = 3; what < 8; what++) {
            Check.due("nothing is done: count " + what, it.count(what), 0);
        }
    }

    private static void fresh() {
        ExtraGuest it = new ExtraGuest();
        for (int n : FAR) {
            wrong(it, n);
        }
        for (int n = 0; n < 5; n++) {
            Check.due("guest", it.guest(n, n), -1);
            Check.due("shows", it.shows(n), -1);
            Check.due("answer", it.answer(n, n, n > 2), -1);
            Check.due("sign", it.sign(n, true), -1);
            Check.due("weather", it.weather(n), -1);
            Check.due("knows", it.knows(n, n), -1);
            Check.due("sure", it.sure(n, n + 1, n), -1);
            Check.due("rounds", it.rounds(n, 0), -1);
            Check.due("rounds", it.rounds(n, 1), -1);
            Check.due("common", it.common(n), -1);
            Check.due("hear", it.hear(n, true), false);
            Check.due("odds", it.odds(n), -1);
            Check.due("errors", it.errors(n, n, 0), -1);
            Check.due("hunt", it.hunt(n), -1);
            Check.due("bill", it.bill(n, n), -1);
            Check.due("beds", it.beds(n), -2);
            Check.due("years", it.years(n, n + 1, n), -1);
        }
        Check.due("night", it.night(), -1);
        Check.due("undo", it.undo(), false);
        Check.due("judged", it.judged(0), -1);
        Check.due("judged", it.judged(1), 0);
        Check.due("judged", it.judged(2), -1);
        Check.due("spare", it.spare(), 0);
        Check.due("who", it.who(), 0);
        Check.due("ask", it.ask(), -1);
        Check.due("fewest", it.fewest(), -1);
        Check.due("tell", it.tell(), 0);
        Check.due("likely", it.likely(), -1);
        Check.due("same", it.same(0), 0);
        Check.due("same", it.same(1), 0);
        Check.due("beds", it.beds(-1), 0);
        Check.due("watch", it.watch(1, 0), 0);
        nothingDone(it, 0);
    }

    private static void edges(ExtraGuest it, int guests, int signs) {
        for (int n : new int[] {-1, guests}) {
            Check.due("guest " + n, it.guest(n, 0), -1);
            Check.due("answer " + n, it.answer(n, 0, false), -1);
            Check.due("answer about " + n, it.answer(0, n, false), -1);
            Check.due("knows " + n, it.knows(n, 0), -1);
            Check.due("sure " + n, it.sure(n, 0, 0), -1);
            Check.due("sure of " + n, it.sure(0, n, 0), -1);
            Check.due("odds " + n, it.odds(n), -1);
            Check.due("errors " + n, it.errors(n, 0, 0), -1);
            Check.due("bill " + n, it.bill(1, n), -1);
            Check.due("beds " + n, it.beds(n) == -2 || n == -1, true);
            Check.due("shows " + n, it.shows(n * 4), -1);
            Check.due("knows at " + n, it.knows(0, n * 4), -1);
            Check.due("sure at " + n, it.sure(0, 1, n * 4), -1);
            Check.due("rounds at " + n, it.rounds(n * 4, 0), -1);
            Check.due("common at " + n, it.common(n * 4), -1);
        }
        for (int n : new int[] {-1, signs}) {
            Check.due("sign " + n, it.sign(n, false), -1);
            Check.due("hear " + n, it.hear(n, false), false);
            Check.due("errors of " + n, it.errors(0, n, 0), -1);
        }
        for (int n : new int[] {-1, 2}) {
            Check.due("errors what " + n, it.errors(0, 0, n), -1);
            Check.due("rounds what " + n, it.rounds(0, n), -1);
        }
        for (int n : new int[] {-1, 4}) {
            Check.due("weather " + n, it.weather(n), -1);
            Check.due("mark " + n, it.mark(n, false), false);
        }
        Check.due("guest what", it.guest(0, 5), -1);
        Check.due("judged what", it.judged(3), -2);
        Check.due("same what", it.same(2), -2);
        Check.due("count what", it.count(8), -1);
        Check.due("count what", it.count(-1), -1);
    }

    public static void main(String[] args) {
        fresh();
        ExtraGuest two = Check.at("guest a plain room 1 stays 1;guest b honest room 2 stays 2;sign s errs 1 when a;");
        for (int n : FAR) {
            wrong(two, n);
        }
        edges(two, 2, 1);
        nothingDone(two, 8);
        StringBuilder text = new StringBuilder();
        for (char c = 'a'; c < 'i'; c++) {
            text.append("guest ").append(c).append(" liar room 12 stays 99;");
        }
        for (char c = 'p'; c < 'v'; c++) {
            text.append("sign ").append(c).append(" errs 10 when a;");
        }
        ExtraGuest eight = Check.at(text.toString());
        for (int n : FAR) {
            wrong(eight, n);
        }
        edges(eight, 8, 6);
        nothingDone(eight, 32);
        Check.end();
    }
}

import java.util.ArrayList;
import java.util.List;
import java.util.function.Consumer;
import java.util.function.Supplier;
import java.util.function.ToLongFunction;

/** Two objects made by the same calls: a call on one of them must leave it as the other one is. */
final class Twins {
    private Twins() { }

    /** The call answers what is due, and all stays as it was. */
    static void refused(String call, Supplier<ExtraGuest> made, ToLongFunction<ExtraGuest> done, long due) {
        ExtraGuest one = made.get();
        Check.due(call, done.applyAsLong(one), due);
        alike(call + " leaves all as it was", one, made.get());
    }

    /** Both steps come to the same. */
    static void same(String why, Supplier<ExtraGuest> made, Consumer<ExtraGuest> one, Consumer<ExtraGuest> two) {
        ExtraGuest first = made.get();
        one.accept(first);
        ExtraGuest second = made.get();
        two.accept(second);
        alike(why, first, second);
    }

    /** Both objects answer the same to all; they are used up by it. */
    static void alike(String why, ExtraGuest one, ExtraGuest two) {
        List<Integer> got = look(one);
        List<Integer> want = look(two);
        for (int i = 0; i < want.size(); i++) {
            Check.due(why + ", look " + i, got.get(i), want.get(i));
        }
    }

    /** What an object answers, in some 380 calls; the last ones undo, go back to MARKS and read the TAPE. */
    private static List<Integer> look(ExtraGuest it) {
        List<Integer> seen = new ArrayList<>();
        told(it, seen);
        known(it, seen);
        reckoned(it, seen);
        for (int i = 0; i < 17; i++) {
            seen.add(it.undo() ? 1 : 0);
            seen.add(it.left());
            seen.add(it.same(0));
        }
        for (int i = 0; i < 4; i++) {
            seen.add(it.mark(i, true) ? 1 : 0);
            seen.add(it.left());
            seen.add(it.count(3));
            seen.add(it.same(0));
            seen.add(it.count(5));
            seen.add(it.odds(5));
        }
        seen.add(it.morning());
        seen.add(it.count(4));
        seen.add(it.spare());
        return seen;
    }

    private static void told(ExtraGuest it, List<Integer> seen) {
        for (int what = 0; what < 8; what++) {
            seen.add(it.count(what));
        }
        for (int guest = 0; guest < 8; guest++) {
            for (int what = 0; what < 5; what++) {
                seen.add(it.guest(guest, what));
            }
        }
        for (int world = 0; world < 32; world++) {
            seen.add(it.shows(world));
        }
        seen.add(it.left());
    }

    private static void known(ExtraGuest it, List<Integer> seen) {
        for (int what = 0; what < 3; what++) {
            seen.add(it.judged(what));
        }
        seen.add(it.spare());
        seen.add(it.who());
        seen.add(it.ask());
        seen.add(it.fewest());
        seen.add(it.tell());
        for (int guest = 0; guest < 8; guest++) {
            for (int one = 0; one < 8; one++) {
                seen.add(it.knows(guest, one * 4 + 1));
            }
            seen.add(it.sure(guest, (guest + 1) % 8, 17));
            seen.add(it.rounds(guest * 4 + 1, guest % 2));
        }
        seen.add(it.common(17));
        seen.add(it.common(1));
    }

    private static void reckoned(ExtraGuest it, List<Integer> seen) {
        seen.add(it.likely());
        for (int guest = 0; guest < 8; guest++) {
            seen.add(it.odds(guest));
            seen.add(it.errors(guest, guest % 6, guest % 2));
            seen.add(it.bill(997, guest));
            seen.add(it.beds(guest));
        }
        for (int what = 0; what < 10; what++) {
            seen.add(it.hunt(what));
        }
        seen.add(it.same(0));
        seen.add(it.same(1));
        seen.add(it.beds(-1));
        for (int far = 0; far < 12; far += 3) {
            seen.add(it.watch(1, far));
            seen.add(it.watch(2, far));
        }
        for (int what = 0; what < 3; what++) {
            seen.add(it.years(77, 20, what));
        }
    }
}

import java.util.Random;

/** No call throws or hangs, whatever is fed and asked, in whatever state, also behind the 512th call. */
public final class NeverThrowsTest {
    private static final String[] PIECES = {"guest ", "aa ", "bb ", "cc ", "plain ", "mad ", "room ", "1 ", "stays ",
        "sign ", "errs ", "when ", "sees ", "shun ", "bill ", "says ", "shows ", "weather ", "snow ", "night ", "not ",
        "( ", ") ", "; ", "; ", "and ", "or ", "door ", "+ ", "< ", "guest aa mad room 3 stays 4 ; ",
        "guest bb plain room 3 stays 4 ; ", "guest dd liar room 5 stays 4 ; ", "sign cc errs 4 when aa ; ",
        "sees aa cc ; ", "shun aa bb ; ", "bill 9999 * door * 9999 ; ", "says aa bb ; ", "shows cc ; "};

    private static final String[] TOLD = {
        "guest aa plain room 1 stays 9;guest bb honest room 3 stays 99;sign cc errs 5 when aa or snow;sees aa cc;",
        "guest aa plain room 1 stays 9;guest bb honest room 12 stays 9;guest a liar room 1 stays 1;"
            + "guest b mad room 2 stays 3;guest c liar room 3 stays 1;guest d plain room 4 stays 3;"
            + "guest e plain room 1 stays 1;guest f honest room 2 stays 3;sign cc errs 10 when aa or snow;"
            + "sign s errs 0 when bb or a;sign t errs 1 when a or c or e;sign u errs 2 when not(a and fog);"
            + "sign v errs 2 when odd and low;sign w errs 9 when old or alone;sees aa cc s t u v w;"
            + "sees a s;sees b t;sees c w u;shun a b;shun a c;shun b c;shun aa f;bill door*nights*9999*9999;",
        "sign cc errs 0 when odd;bill 1-2;"};

    private static int wild(Random random) {
        switch (random.nextInt(5)) {
            case 0:
                return random.nextInt();
            case 1:
                return random.nextBoolean() ? Integer.MIN_VALUE + random.nextInt(3) : Integer.MAX_VALUE - random.nextInt(3);
            default:
                return random.nextInt(40) - 4;
        }
    }

    private static long any(ExtraGuest it, Random random) {
        int a = wild(random);
        int b = wild(random);
        int c = wild(random);
        boolean yes = random.nextBoolean();
        switch (random.nextInt(36)) {
            case 0: return it.feed(random.nextLong(), random.nextLong(), random.nextLong());
            case 1: return it.inn();
            case 2: return it.morning();
            case 3: return it.guest(a, b);
            case 4: return it.shows(a);
            case 5: return it.left();
            case 6: return it.answer(a, b, yes);
            case 7: return it.sign(a, yes);
            case 8: return it.weather(a);
            case 9: return it.night();
            case 10: return it.undo() ? 1 : 0;
            case 11: return it.judged(a);
            case 12: return it.spare();
            case 13: return it.who();
            case 14: return it.ask();
            case 15: return it.fewest();
            case 16: return it.tell();
            case 17: return it.knows(a, b);
            case 18: return it.sure(a, b, c);
            case 19: return it.rounds(a, b);
            case 20: return it.common(a);
            case 21: return it.hear(a, yes) ? 1 : 0;
            case 22: return it.likely();
            case 23: return it.odds(a);
            case 24: return it.errors(a, b, c);
            case 25: return it.hunt(a);
            case 26: return it.same(a);
            case 27: return it.bill(a, b);
            case 28: return it.beds(a);
            case 29: return it.watch(a, b);
            case 30: return it.years(a, b, c);
            case 31: return it.mark(a, yes) ? 1 : 0;
            case 32: return it.count(a);
            default:
                String text = "";
                for (int i = random.nextInt(12); i >= 0; i--) {
                    text = text.concat(PIECES[random.nextInt(PIECES.length)]);
                }
                return Check.feed(it, text);
        }
    }

    /** The same calls always give the same answers, on two objects side by side. */
    public static void main(String[] args) {
        for (long seed = 0; seed < 1500; seed++) {
            Random one = new Random(seed);
            Random two = new Random(seed);
            ExtraGuest it = new ExtraGuest();
            ExtraGuest other = new ExtraGuest();
            if (seed % 4 != 0) {
                Check.due("an inn", Check.inn(it, TOLD[(int) seed % 4 - 1]), 0);
                Check.due("an inn", Check.inn(other, TOLD[(int) seed % 4 - 1]), 0);
            }
            for (int call = 0; call < 700; call++) {
                Check.due("twice the same", any(it, one), any(other, two));
            }
        }
        Check.end();
    }
}

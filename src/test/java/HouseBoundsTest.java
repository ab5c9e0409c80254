import java.math.BigInteger;
import java.util.Arrays;

/** Bounds of E, BILL, BEDS, WATCH, DRAW and YEARS ("Terms", parts 1 and 3), and of promises 29 to 32. */
public final class HouseBoundsTest {
    private static final int[] FAR = {Integer.MIN_VALUE, -65536, -33, -2, 10001, 65536, Integer.MAX_VALUE};

    private static void billTakesPenniesAndGuests() {
        Check.about("Promise 29: 0 to 9999 pennies; NONE: others");
        for (int many = 0; many <= 8; many++) {
            ExtraGuest it = Check.at(Inns.guests(many));
            Check.due("guest -1", it.bill(1, -1), -1);
            Check.due("guest " + many, it.bill(1, many), -1);
            for (int far : FAR) {
                Check.due("guest " + far, it.bill(1, far), -1);
                Check.due("pennies " + far, it.bill(far, 0), -1);
            }
            Check.due("pennies -1", it.bill(-1, 0), -1);
            Check.due("pennies 10000", it.bill(10000, 0), -1);
            if (many > 0) {
                Check.due("none", it.bill(0, many - 1), 0);
                Check.due("most", it.bill(9999, many - 1), 9999 / many);
                Check.due("the first", it.bill(9999, 0), (9999 + many - 1) / many);
            }
        }
    }

    private static void bill(String when, String text, int pennies, int... due) {
        ExtraGuest it = Check.at(text);
        for (int i = 0; i < due.length; i++) {
            Check.due(when + ", bill of " + pennies + ", " + i, it.bill(pennies, i), due[i]);
        }
    }

    private static void billByTheLaw() {
        String two = Inns.guest(0, "mad", 1, 99) + Inns.guest(1, "mad", 2, 98);
        Check.about("Without bill: 1");
        bill("no law", two, 9999, 5000, 4999);
        bill("one", two + "bill 1;", 9999, 5000, 4999);
        Check.about("BILL: the E of bill of each (0 to 99): the most");
        bill("99 and 98", two + "bill nights;", 9999, 5025, 4974);
        bill("100 is 99, and 99", two + "bill nights + 1;", 9999, 5000, 4999);
        bill("101 is 99, and 100 is 99", two + "bill nights + 2;", 9999, 5000, 4999);
        bill("the greatest int is 99, and 98", two + "bill ( door = 1 ) * ( 8192 * 8192 * 32 - 1 ) + ( door = 2 ) * 98;",
                9999, 5025, 4974);
        Check.about("BILL: the E of bill of each (0 to 99): the least");
        bill("1 and 2", two + "bill door;", 9999, 3333, 6666);
        bill("0 and 1", two + "bill door - 1;", 9999, 0, 9999);
        bill("-1 is 0, and 0: nobody pays", two + "bill door - 2;", 9999, 0, 0);
        bill("-1 is 0, and 2", two + "bill door * 3 - 4;", 9999, 0, 9999);
        bill("the least int is 0, and 1", two + "bill ( door = 1 ) * 8192 * 8192 * 32 + ( door = 2 );", 9999, 0, 9999);
        Check.about("BILL: all together 0: nobody pays");
        bill("0", two + "bill 0;", 9999, 0, 0);
        bill("below 0", two + "bill 0 - 1;", 1, 0, 0);
        bill("no pennies", two + "bill door;", 0, 0, 0);
    }

    private static void restsGoToTheGreatest() {
        Check.about("BILL: what is left goes by ones to those with the greatest rest, the first of equal ones");
        String four = Inns.guest(0, "mad", 1, 1) + Inns.guest(1, "mad", 2, 1) + Inns.guest(2, "mad", 2, 1) + Inns.guest(3, "mad", 5, 1);
        // 1, 2, 2, 5 of 10
        bill("rests 1, 2, 2, 5", four + "bill door;", 1, 0, 0, 0, 1);
        bill("rests 2, 4, 4, 0", four + "bill door;", 2, 0, 1, 0, 1);
        bill("rests 3, 6, 6, 5", four + "bill door;", 3, 0, 1, 1, 1);
        bill("rests 4, 8, 8, 0", four + "bill door;", 4, 0, 1, 1, 2);
        bill("rests 7, 4, 4, 5", four + "bill door;", 7, 1, 1, 1, 4);
        bill("rests 9, 8, 8, 5", four + "bill door;", 9, 1, 2, 2, 4);
        bill("no rests", four + "bill door;", 10, 1, 2, 2, 5);
        bill("eight and seven pennies", Inns.guests(8), 7, 1, 1, 1, 1, 1, 1, 1, 0);
        bill("eight and one penny", Inns.guests(8), 1, 1, 0, 0, 0, 0, 0, 0, 0);
        Check.about("BILL: to the last penny");
        for (int pennies : new int[] {0, 1, 2, 7, 99, 100, 1000, 9998, 9999}) {
            ExtraGuest it = Check.at(Inns.rich());
            int sum = 0;
            for (int i = 0; i < 8; i++) {
                sum += it.bill(pennies, i);
            }
            Check.due("all together pay " + pennies, sum, pennies);
        }
    }

    /** What an E is, 0 to 99, for a GUEST in room 4 who stays 7; another one has 100 - that. */
    private static void amount(String e, int due) {
        ExtraGuest it = Check.at("guest a mad room 4 stays 7;guest b mad room 9 stays 7;bill(" + e + ")*(door=4)+(door=9)*"
                + (100 - due) + ";");
        Check.due("E " + e, it.bill(100, 0), due);
    }

    private static void intsWrap() {
        Check.about("E: ints wrap");
        String two16 = "8192*8";
        amount(two16 + "*" + two16, 0);
        amount(two16 + "*" + two16 + "+5", 5);
        amount("(8192*8192*32<0)*9", 9);
        amount("(0<8192*8192*32-1)*9", 9);
        amount("(0-8192*8192*32<0)*9", 9);
        amount("(8192*8192*32-1+1=8192*8192*32)*9", 9);
        Check.about("E: of not, and, or, < and = comes 1 or 0; what is not 0 is so");
        amount("not 0", 1);
        amount("not 1", 0);
        amount("not(0-1)", 0);
        amount("9 and 9", 1);
        amount("9 and 0", 0);
        amount("0 and 9", 0);
        amount("(0-1)and(0-1)", 1);
        amount("0 or 0", 0);
        amount("0 or 9", 1);
        amount("9 or 0", 1);
        amount("(0-9)or 0", 1);
        amount("3<4", 1);
        amount("4<4", 0);
        amount("5<4", 0);
        amount("4=4", 1);
        amount("3=4", 0);
        amount("0-1<0", 1);
        // what is not so is 0, and nothing below it
        amount("not 1+5", 5);
        amount("(9 and 0)+5", 5);
        amount("(0 or 0)+5", 5);
        amount("(4<4)+5", 5);
        amount("(3=4)+5", 5);
        Check.about("E: TEST { and TEST or or TEST }, from the left");
        amount("1 or 0 and 0", 0);
        amount("0 and 0 or 1", 1);
        amount("1 or 1 and 0 or 0", 0);
        Check.about("E: facts: door, nights, many");
        amount("door", 4);
        amount("nights", 7);
        amount("many", 2);
        Check.due("many: all that are told, later ones too", Check.at("bill many-7;" + Inns.guests(8)).bill(9, 0), 2);
    }

    private static void beds(String text, int... due) {
        ExtraGuest it = Check.at(text);
        int rooms = 0;
        for (int i = 0; i < due.length; i++) {
            Check.due("beds " + i + " of " + text, it.beds(i), due[i]);
            rooms = Math.max(rooms, due[i] + 1);
        }
        Check.due("rooms of " + text, it.beds(-1), rooms);
        for (int other : new int[] {-2, due.length, -3, due.length + 1, Integer.MIN_VALUE, Integer.MAX_VALUE}) {
            Check.due("beds " + other + " of " + text, it.beds(other), -2);
        }
    }

    private static void bedsAtTheirEdges() {
        Check.about("BEDS: rooms of three at most; promise 30, -2: others");
        beds("");
        beds(Inns.signs(1));
        int[] filled = {0, 0, 0, 1, 1, 1, 2, 2};
        for (int many = 1; many <= 8; many++) {
            beds(Inns.guests(many), Arrays.copyOf(filled, many));
        }
        Check.about("BEDS: nobody is with one he shuns (or who shuns him)");
        beds(Inns.guests(2) + "shun a b;", 0, 1);
        beds(Inns.guests(2) + "shun b a;", 0, 1);
        for (int many = 2; many <= 8; many++) {
            int[] apart = {0, 1, 2, 3, 4, 5, 6, 7};
            beds(Inns.guests(many) + Inns.shuns(many), Arrays.copyOf(apart, many));
        }
        Check.about("BEDS: the fewest; of all such ways the first");
        beds(Inns.guests(3) + "shun a c;", 0, 0, 1);
        beds(Inns.guests(4) + "shun c d;", 0, 0, 0, 1);
        beds(Inns.guests(4) + "shun a b;shun a c;shun a d;", 0, 1, 1, 1);
        beds(Inns.guests(6) + "shun f d;shun f e;", 0, 0, 1, 1, 1, 0);
    }

    private static void watchAtItsEdges() {
        Check.about("Promise 31, NONE: others");
        ExtraGuest it = Check.at(Inns.guests(3));
        Check.due("0 of them", it.watch(0, 0), -1);
        Check.due("1 of them", it.watch(1, 0), 3);
        Check.due("2 of them", it.watch(2, 0), 7);
        Check.due("3 of them", it.watch(3, 11), -1);
        Check.due("farther than -1", it.watch(1, -1), -1);
        Check.due("farther than 11", it.watch(1, 11), 3);
        Check.due("farther than 12", it.watch(1, 12), -1);
        for (int far : FAR) {
            Check.due("many " + far, it.watch(far, 0), -1);
            Check.due("far " + far, it.watch(1, far), -1);
        }
        Check.about("WATCH: whose rooms are no farther than so many (0 to 11) from his; NONE: all are not enough");
        for (int room = 1; room <= 12; room++) {
            ExtraGuest two = Check.at(Inns.guest(0, "mad", 1, 1) + Inns.guest(1, "mad", room, 1));
            ExtraGuest turned = Check.at(Inns.guest(0, "mad", 12, 1) + Inns.guest(1, "mad", 13 - room, 1));
            for (int far = 0; far <= 11; far++) {
                Check.due("1 and " + room + " by " + far, two.watch(1, far), far >= room - 1 ? 3 : -1);
                Check.due("12 and " + (13 - room) + " by " + far, turned.watch(1, far), far >= room - 1 ? 3 : -1);
                Check.due("two can't have two", two.watch(2, far), -1);
            }
        }
        Check.about("WATCH: not himself");
        Check.due("one alone", Check.at(Inns.guests(1)).watch(1, 11), -1);
        Check.due("nobody", new ExtraGuest().watch(1, 0), 0);
        Check.due("nobody", Check.at(Inns.signs(1)).watch(2, 11), 0);
        Check.about("Promise 31, NONE: others, if there is nobody, too");
        for (int other : new int[] {-1, 12}) {
            Check.due("nobody, far " + other, new ExtraGuest().watch(1, other), -1);
        }
        for (int other : new int[] {0, 3}) {
            Check.due("nobody, many " + other, new ExtraGuest().watch(other, 0), -1);
        }
        Check.about("WATCH: the fewest; of equal ones the least set");
        Check.due("eight in one room", Check.at(Inns.guests(8)).watch(1, 0), 3);
        Check.due("eight in one room", Check.at(Inns.guests(8)).watch(2, 0), 7);
        String pairs = "";
        for (int i = 0; i < 8; i++) {
            pairs += Inns.guest(i, "mad", 1 + i / 2 * 3, 1);
        }
        Check.due("four pairs: all", Check.at(pairs).watch(1, 2), 255);
        Check.due("four pairs: the middle ones", Check.at(pairs).watch(1, 3), 20);
        Check.due("four pairs: two each", Check.at(pairs).watch(2, 3), 60);
        // the middle two alone see both ends and each other
        String row = Inns.guest(0, "mad", 1, 1) + Inns.guest(1, "mad", 12, 1) + Inns.guest(2, "mad", 5, 1) + Inns.guest(3, "mad", 8, 1);
        Check.due("the least set has great numbers", Check.at(row).watch(1, 4), 12);
    }

    private static void yearsAtTheirEdges() {
        ExtraGuest it = Check.at(Inns.rich());
        Check.about("Promise 32: a SEED (0 to 9999); NONE: others");
        Check.due("seed -1", it.years(-1, 1, 0), -1);
        Check.due("seed 0", it.years(0, 1, 0), 1);
        Check.due("seed 9999", it.years(9999, 1, 0), 1);
        Check.due("seed 10000", it.years(10000, 1, 0), -1);
        Check.about("YEARS: so many nights (1 to 100)");
        Check.due("nights 0", it.years(0, 0, 0), -1);
        Check.due("nights 1", it.years(0, 1, 0), 1);
        Check.due("nights 100", it.years(0, 100, 0), 100);
        Check.due("nights 101", it.years(0, 101, 0), -1);
        Check.about("Promise 32, NONE: others (what), no GUEST");
        Check.due("what -1", it.years(0, 1, -1), -1);
        Check.due("what 2", it.years(0, 1, 2) >= 0, true);
        Check.due("what 3", it.years(0, 1, 3), -1);
        for (int far : FAR) {
            Check.due("seed " + far, it.years(far, 1, 0), -1);
            Check.due("nights " + far, it.years(0, far, 0), -1);
            Check.due("what " + far, it.years(0, 1, far), -1);
        }
        for (int what = 0; what < 3; what++) {
            Check.due("no inn", new ExtraGuest().years(0, 1, what), -1);
            Check.due("no guest", Check.at(Inns.signs(6)).years(0, 1, what), -1);
        }
    }

    private static void yearsAtTheirMost() {
        Check.about("YEARS: how often all SIGNS together tell; he himself knows it; how many SIGNS showed: none and all");
        String always = Inns.sixSigns("snow or not snow");
        String never = Inns.sixSigns("snow and not snow");
        years(Inns.guests(8) + always, 0, 0, 600);
        years(Inns.guests(8) + never, 0, 0, 0);
        years(Inns.guests(1), 100, 100, 0);
        years(Inns.guests(1) + always, 100, 100, 600);
        String parts = Inns.full();
        years(parts.substring(0, parts.indexOf("sign s")), 100, 0, -1);
        years(parts.substring(0, parts.indexOf("sign s")) + "sees a p q r;sees b p q r;sees c p q r;sees d p q r;sees e p q r;"
                + "sees f p q r;sees g p q r;sees h p q r;", 100, 100, -1);
        years(parts.substring(0, parts.indexOf("sign r")), 0, 0, -1);
    }

    /** Of 100 nights by some seeds; -1: as often as it is. */
    private static void years(String text, int told, int known, int signs) {
        ExtraGuest it = Check.at(text);
        for (int seed : new int[] {0, 1, 5000, 9999}) {
            Check.due("told, " + seed, it.years(seed, 100, 0), told);
            Check.due("known, " + seed, it.years(seed, 100, 1), known);
            if (signs >= 0) {
                Check.due("signs, " + seed, it.years(seed, 100, 2), signs);
            }
        }
    }

    private static void drawsByTheSeed() {
        Check.about("DRAW below m: g becomes (g * 1103515245 + 12345) modulo 2147483648; g / 65536 modulo m");
        int[] stays = {1, 99, 9, 10, 5, 50, 20, 33};
        ExtraGuest it = Check.at(Inns.full());
        for (int seed : new int[] {0, 1, 2, 4999, 9998, 9999}) {
            int[] signs = new int[101];
            BigInteger g = BigInteger.valueOf(seed);
            for (int night = 1; night <= 100; night++) {
                g = next(g);
                int drawn = drawn(g, 227);
                int who = 0;
                while (drawn >= stays[who]) {
                    drawn -= stays[who];
                    who++;
                }
                g = next(g);
                signs[night] = signs[night - 1] + Integer.bitCount(it.shows(who * 4 + drawn(g, 4)));
            }
            for (int nights : new int[] {1, 2, 3, 50, 99, 100}) {
                Check.due("signs by " + seed + " in " + nights, it.years(seed, nights, 2), signs[nights]);
            }
            it = Check.at(Inns.full());
        }
    }

    private static BigInteger next(BigInteger g) {
        return g.multiply(BigInteger.valueOf(1103515245)).add(BigInteger.valueOf(12345))
                .mod(BigInteger.valueOf(2147483648L));
    }

    private static int drawn(BigInteger g, int below) {
        return g.divide(BigInteger.valueOf(65536)).mod(BigInteger.valueOf(below)).intValueExact();
    }

    private static void yearsAreOfAllWorlds() {
        Check.about("YEARS: of all WORLDS, whatever is LEFT, HEARD and kept; nothing changes by them");
        Twins.same("years", Inns::used, it -> { }, it -> {
            it.years(0, 100, 0);
            it.years(9999, 100, 1);
            it.years(0, 100, 2);
        });
        ExtraGuest it = Check.at(Inns.rich());
        int[] before = {it.years(3, 100, 0), it.years(3, 100, 1), it.years(3, 100, 2)};
        it.answer(1, 1, true);
        it.weather(2);
        it.hear(0, true);
        for (int what = 0; what < 3; what++) {
            Check.due("b is sure now, what " + what, it.years(3, 100, what), before[what]);
        }
        it.night();
        Check.due("a night later", it.years(3, 100, 1), before[1]);
    }

    public static void main(String[] args) {
        billTakesPenniesAndGuests();
        billByTheLaw();
        restsGoToTheGreatest();
        intsWrap();
        bedsAtTheirEdges();
        watchAtItsEdges();
        yearsAtTheirEdges();
        yearsAtTheirMost();
        drawsByTheSeed();
        yearsAreOfAllWorlds();
        Check.end();
    }
}

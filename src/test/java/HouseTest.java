/** Promises 29 to 32: bill, beds, watch, years. */
public final class HouseTest {
    private static final String THREE = "guest a mad room 3 stays 12;guest b mad room 8 stays 5;guest c mad room 1 stays 99;";

    private static void bill(ExtraGuest it, int pennies, int... due) {
        for (int i = 0; i < due.length; i++) {
            Check.due("bill " + pennies + ", " + i, it.bill(pennies, i), due[i]);
        }
    }

    private static void bills() {
        ExtraGuest even = Check.at(THREE);
        bill(even, 0, 0, 0, 0);
        bill(even, 1, 1, 0, 0);
        bill(even, 2, 1, 1, 0);
        bill(even, 3, 1, 1, 1);
        bill(even, 9998, 3333, 3333, 3332);
        bill(even, 9999, 3333, 3333, 3333);
        Check.due("others", even.bill(-1, 0), -1);
        Check.due("others", even.bill(10000, 0), -1);
        Check.due("others", even.bill(5, 3), -1);
        Check.due("others", even.bill(5, -1), -1);
        Check.due("no guest", new ExtraGuest().bill(5, 0), -1);
        // 3, 8, 1 of 12: 100 gives 25, 66 and 8 over, 8 and 4 over
        bill(Check.at(THREE + "bill door;"), 100, 25, 67, 8);
        // 12, 5, 99 of 116: 9999 gives 1034 (44 over), 430 (115 over), 8533 (73 over)
        bill(Check.at(THREE + "bill nights;"), 9999, 1034, 431, 8534);
        bill(Check.at(THREE + "bill many;"), 10, 4, 3, 3);
        // what is below 0 is 0, what is above 99 is 99
        bill(Check.at(THREE + "bill door - 3;"), 100, 0, 100, 0);
        bill(Check.at(THREE + "bill nights * 50 - 200;"), 100, 40, 20, 40);
        bill(Check.at(THREE + "bill 0;"), 100, 0, 0, 0);
        bill(Check.at(THREE + "bill door - 99;"), 100, 0, 0, 0);
        // who has no share never pays a penny that is over
        bill(Check.at(THREE + "bill not ( door = 3 );"), 1, 0, 1, 0);
        bill(Check.at("guest a mad room 3 stays 12;bill door = 3;guest b mad room 3 stays 5;"), 7, 4, 3);
    }

    /** What an E is, 0 to 99: the first one has it, the second one what is missing to 100. */
    private static void amount(String e, int due) {
        ExtraGuest it = Check.at("guest a mad room 4 stays 7;guest b mad room 9 stays 7;bill ( " + e + " ) * ( door = 4 ) + ( 100 - ( "
                + e.replace("door", "4") + " ) ) * ( door = 9 );");
        Check.due("E " + e, it.bill(100, 0), due);
    }

    private static void amounts() {
        amount("17", 17);
        amount("0009", 9);
        amount("door", 4);
        amount("nights", 7);
        amount("many", 2);
        amount("1 + 2 * 3", 7);
        amount("( 1 + 2 ) * 3", 9);
        amount("9 - 3 - 2", 4);
        amount("9 - 3 + 2", 8);
        amount("2 * 3 * 4", 24);
        amount("2 < 3", 1);
        amount("3 < 2", 0);
        amount("3 < 3", 0);
        amount("3 = 3", 1);
        amount("3 = 2", 0);
        amount("1 - 3 < 0", 1);
        amount("1 + 1 = 2", 1);
        amount("( 2 < 3 ) + 4", 5);
        amount("not 0", 1);
        amount("not 5", 0);
        amount("not 0 + 1", 2);
        amount("not not 7", 1);
        amount("5 and 3", 1);
        amount("5 and 0", 0);
        amount("0 or 7", 1);
        amount("0 or 0", 0);
        amount("( 0 - 3 ) and 1", 1);
        // from the left, and is no stronger than or
        amount("1 or 1 and 0", 0);
        amount("0 and 1 or 1", 1);
        amount("1 < 2 and 2 < 3", 1);
        amount("1 or 0 = 1", 1);
        // ints wrap
        amount("8192 * 8192 * 64 + 3", 3);
        amount("( 8192 * 8192 * 32 < 0 ) * 8", 8);
        amount("( 0 < 8192 * 8192 * 32 - 1 ) * 8", 8);
    }

    private static void beds(String text, int rooms, int... due) {
        ExtraGuest it = Check.at(text);
        Check.due("beds of " + text, it.beds(-1), rooms);
        for (int i = 0; i < due.length; i++) {
            Check.due("bed of " + i + " in " + text, it.beds(i), due[i]);
        }
        Check.due("others", it.beds(due.length), -2);
        Check.due("others", it.beds(-2), -2);
        Check.due("again", it.beds(-1), rooms);
    }

    private static String guests(int... rooms) {
        StringBuilder text = new StringBuilder();
        for (int i = 0; i < rooms.length; i++) {
            text.append("guest ").append((char) ('a' + i)).append(" mad room ").append(rooms[i]).append(" stays 1;");
        }
        return text.toString();
    }

    private static void bedding() {
        beds("", 0);
        beds(guests(1), 1, 0);
        beds(guests(1, 1, 1), 1, 0, 0, 0);
        beds(guests(1, 2, 3, 4), 2, 0, 0, 0, 1);
        beds(guests(1, 1, 1, 1, 1, 1, 1, 1), 3, 0, 0, 0, 1, 1, 1, 2, 2);
        beds(guests(1, 1) + "shun b a;", 2, 0, 1);
        beds(guests(1, 1, 1, 1) + "shun a d;", 2, 0, 0, 0, 1);
        beds(guests(1, 1, 1, 1) + "shun a b;shun c d;", 2, 0, 1, 0, 1);
        // three in the first room would leave d and e a third one
        beds(guests(1, 1, 1, 1, 1, 1) + "shun e d;", 2, 0, 0, 1, 0, 1, 1);
        beds(guests(1, 1, 1, 1, 1, 1, 1, 1) + "shun a b;shun b c;shun a c;", 3, 0, 1, 2, 0, 0, 1, 1, 2);
        StringBuilder all = new StringBuilder(guests(1, 1, 1, 1, 1, 1, 1, 1));
        for (char one = 'a'; one < 'h'; one++) {
            for (char two = (char) (one + 1); two < 'i'; two++) {
                all.append("shun ").append(two).append(' ').append(one).append(';');
            }
        }
        beds(all.toString(), 8, 0, 1, 2, 3, 4, 5, 6, 7);
        beds(all.toString().replace("shun h a;", ""), 7, 0, 1, 2, 3, 4, 5, 6, 0);
    }

    private static void watch(ExtraGuest it, int many, int far, int due) {
        Check.due("watch " + many + ", " + far, it.watch(many, far), due);
    }

    private static void watching() {
        ExtraGuest it = Check.at(guests(1, 4, 8));
        watch(it, 1, 0, -1);
        watch(it, 1, 3, -1);
        watch(it, 1, 4, 3);
        watch(it, 1, 6, 3);
        watch(it, 1, 11, 3);
        watch(it, 2, 4, -1);
        watch(it, 2, 6, -1);
        watch(it, 2, 7, 7);
        watch(it, 2, 11, 7);
        watch(it, 0, 11, -1);
        watch(it, 3, 11, -1);
        watch(it, 1, -1, -1);
        watch(it, 1, 12, -1);
        watch(Check.at(guests(5)), 1, 11, -1);
        ExtraGuest same = Check.at(guests(12, 12, 12, 12));
        watch(same, 1, 0, 3);
        watch(same, 2, 0, 7);
        // c and d watch the two ends and each other: the least of sets of equal size
        ExtraGuest row = Check.at(guests(1, 12, 5, 8));
        watch(row, 1, 4, 12);
        watch(row, 1, 11, 3);
        ExtraGuest nobody = new ExtraGuest();
        watch(nobody, 1, 0, 0);
        watch(nobody, 2, 11, 0);
        watch(nobody, 0, 0, -1);
        watch(nobody, 1, 12, -1);
    }

    private static void years(ExtraGuest it, int seed, int nights, int... due) {
        for (int what = 0; what < 3; what++) {
            Check.due("years " + seed + ", " + nights + ", " + what, it.years(seed, nights, what), due[what]);
        }
    }

    private static void drawing() {
        ExtraGuest it = Check.at("guest a mad room 1 stays 5;guest b mad room 1 stays 3;guest c mad room 1 stays 2;"
                + "sign s errs 9 when a;sign t errs 9 when snow or b;sees a s;sees b s;");
        years(it, 0, 1, 1, 1, 1);
        years(it, 1, 1, 1, 0, 0);
        years(it, 2, 5, 2, 1, 4);
        years(it, 0, 10, 6, 4, 9);
        years(it, 1234, 50, 31, 22, 45);
        years(it, 1, 100, 69, 56, 102);
        years(it, 9999, 100, 65, 42, 91);
        it.weather(1);
        it.hear(0, true);
        years(it, 9999, 100, 65, 42, 91);
        for (int wrong : new int[] {-1, 10000, Integer.MIN_VALUE, Integer.MAX_VALUE}) {
            Check.due("others", it.years(wrong, 1, 0), -1);
            Check.due("others", it.years(0, wrong, 0), -1);
            Check.due("others", it.years(0, 1, wrong), -1);
        }
        Check.due("others", it.years(0, 0, 0), -1);
        Check.due("others", it.years(0, 101, 0), -1);
        Check.due("others", it.years(0, 1, 3), -1);
        Check.due("no guest", new ExtraGuest().years(0, 1, 0), -1);
        years(Check.at("guest a mad room 1 stays 1;"), 77, 100, 100, 100, 0);
    }

    public static void main(String[] args) {
        bills();
        amounts();
        bedding();
        watching();
        drawing();
        Check.end();
    }
}

/** Promises 5 to 7: guest, shows, left; and how FORMULAS are so. */
public final class ToldTest {

    private static void guests() {
        ExtraGuest it = Check.at("guest p plain room 1 stays 99 ; guest h honest room 12 stays 1 ; guest l liar room 6 stays 9 ;"
                + "guest m mad room 7 stays 10 ; guest e mad room 2 stays 3 ; guest f mad room 2 stays 3 ;"
                + "guest g mad room 2 stays 3 ; guest z mad room 3 stays 4 ;"
                + "sign a errs 0 when p ; sign b errs 10 when h ; sign c errs 1 when l ; sign d errs 1 when m ;"
                + "sign i errs 1 when e ; sign j errs 1 when f ; sees z j a ; sees p a b c d i j ; sees h c ;"
                + "shun z p ; shun p h ; shun g z ;");
        int[][] due = {
            {0, 1, 99, 63, 130}, {1, 12, 1, 4, 1}, {2, 6, 9, 0, 0}, {3, 7, 10, 0, 0},
            {3, 2, 3, 0, 0}, {3, 2, 3, 0, 0}, {3, 2, 3, 0, 128}, {3, 3, 4, 33, 65}};
        for (int guest = 0; guest < 8; guest++) {
            for (int what = 0; what < 5; what++) {
                Check.due("guest " + guest + ", " + what, it.guest(guest, what), due[guest][what]);
            }
        }
        Check.due("count 0", it.count(0), 8);
        Check.due("count 1", it.count(1), 6);
        Check.due("32 worlds", it.count(2), 32);
        Check.due("all bits", it.left(), -1);
        Check.due("who", it.who(), 255);
        Check.due("the last world", it.shows(31), 0);
        Check.due("a world of f", it.shows(21), 32);
        Check.due("no such world", it.shows(32), -1);
        Check.due("no such guest", it.guest(8, 0), -1);
        Check.due("no such what", it.guest(7, 5), -1);
        Check.due("no such what", it.guest(7, -1), -1);
    }

    private static void shows(ExtraGuest it, int guest, int... byWeather) {
        for (int weather = 0; weather < 4; weather++) {
            Check.due("shows " + guest + ", " + weather, it.shows(guest * 4 + weather), byWeather[weather % byWeather.length]);
        }
    }

    private static void facts() {
        // told before the guests are, and yet of all of them
        ExtraGuest it = Check.at("sign s errs 0 when odd ; sign t errs 0 when alone ; sign u errs 0 when low ;"
                + "sign v errs 0 when old ; guest a mad room 3 stays 9 ; guest b mad room 6 stays 10 ;"
                + "guest c mad room 6 stays 99 ; guest d mad room 7 stays 1 ;");
        shows(it, 0, 7);
        shows(it, 1, 12);
        shows(it, 2, 12);
        shows(it, 3, 3);
        Check.due("left of four", it.left(), 0xffff);
    }

    private static void formulas() {
        ExtraGuest it = Check.at("guest a mad room 1 stays 1 ; guest b mad room 2 stays 1 ;"
                + "sign s errs 0 when clear or snow and a ;"
                + "sign t errs 0 when ( clear or snow ) and a ;"
                + "sign u errs 0 when not a and b or wind ;"
                + "sign v errs 0 when not ( a or fog ) ;"
                + "sign w errs 0 when s and t and not u ;"
                + "sign x errs 0 when not not a ;");
        shows(it, 0, 1 + 2 + 16 + 32, 1 + 2 + 16 + 32, 32, 4 + 32);
        shows(it, 1, 1 + 4 + 8, 4 + 8, 4, 4 + 8);
    }

    private static void noGuests() {
        ExtraGuest it = Check.at("sign s errs 0 when snow ; bill 3 ;");
        Check.due("a sign", it.count(1), 1);
        Check.due("no world", it.shows(0), -1);
        Check.due("none left", it.left(), 0);
        Check.due("it can't be", it.sign(0, true), -1);
        Check.due("nor so", it.sign(0, false), -1);
        Check.due("but it is heard", it.hear(0, true), true);
        Check.due("nobody", it.likely(), -1);
        Check.due("tell", it.tell(), 0);
    }

    public static void main(String[] args) {
        guests();
        facts();
        formulas();
        noGuests();
        Check.end();
    }
}

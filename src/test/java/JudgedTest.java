/** Promises 13 and 14: told mornings judged, and the lines that are spare. */
public final class JudgedTest {
    private static final String KINDS = "guest p plain room 1 stays 1 ; guest h honest room 2 stays 1 ;"
            + "guest l liar room 3 stays 1 ; guest m mad room 4 stays 1 ; sign s errs 1 when snow and p or h ;";

    private static void judge(String text, int first, int worlds, int one, int spare) {
        ExtraGuest it = Check.at(KINDS);
        it.answer(1, 2, true);
        Check.due("by hand", it.night(), 4);
        it.weather(3);
        Check.due(text, Check.morning(it, text), 0);
        Check.due("judged 0 of " + text, it.judged(0), first);
        Check.due("judged 1 of " + text, it.judged(1), worlds);
        Check.due("judged 2 of " + text, it.judged(2), one);
        Check.due("spare of " + text, it.spare(), spare);
        Check.due("judging changes nothing", it.left(), 0x8888);
        Check.due("nor nights", it.count(3), 1);
        Check.due("others", it.judged(3), -2);
        Check.due("others", it.judged(-1), -2);
    }

    public static void main(String[] args) {
        judge("", -1, 16, -1, 0);
        judge("says p h ;", -1, 8, -1, 0);
        judge("says h h ;", -1, 4, 1, 0);
        judge("says l h ;", -1, 8, -1, 0);
        judge("says l l ;", -1, 16, -1, 1);
        judge("says l not l ;", 0, 16, -1, 1);
        judge("says m h and p ;", -1, 16, -1, 1);
        judge("says p p ;", 0, 16, -1, 1);
        judge("says h s and snow ;", -1, 2, -1, 0);
        judge("shows s ; says h p ;", -1, 1, 0, 0);
        judge("hides s ; weather snow ;", -1, 2, -1, 0);
        judge("weather snow ; weather fog ;", 1, 4, -1, 2);
        judge("weather snow ; weather fog ; weather snow ;", 1, 4, -1, 6);
        judge("weather fog ; weather snow ; weather snow ;", 1, 4, -1, 6);
        judge("says h p ; night ; says h h ;", -1, 4, 1, 1);
        judge("night ;", -1, 16, -1, 1);
        judge("says h p ; night ;", -1, 16, -1, 1);
        judge("night ; says h p ; says h h ; says h l ;", 2, 4, 0, 1 + 4 + 8);
        judge("weather wind ;".repeat(24), -1, 4, -1, 0xffffff);
        judge("night ;".repeat(24), -1, 16, -1, 0xffffff);
        judge("weather wind ;" + "night ;".repeat(22) + "says h m ;", -1, 4, 3, 0x7fffff);

        ExtraGuest one = Check.at("guest a plain room 1 stays 1 ;");
        Check.due("no morning: none can't be", one.judged(0), -1);
        Check.due("all are left", one.judged(1), 4);
        Check.due("the only one is sure", one.judged(2), 0);
        Check.due("no line is spare", one.spare(), 0);
        ExtraGuest eight = Check.at("guest a mad room 1 stays 1;guest b mad room 1 stays 1;guest c mad room 1 stays 1;"
                + "guest d mad room 1 stays 1;guest e mad room 1 stays 1;guest f mad room 1 stays 1;"
                + "guest g mad room 1 stays 1;guest h honest room 1 stays 1;");
        Check.due("a morning", Check.morning(eight, "says h h ;"), 0);
        Check.due("four of 32", eight.judged(1), 4);
        Check.due("the last one", eight.judged(2), 7);
        Check.end();
    }
}

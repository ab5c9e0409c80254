/** Bounds of TAPE, TOKENS, WORDS, NUMBERS and signs ("Terms", part 1), and of promise 2: feed. */
public final class TapeBoundsTest {

    private static void inn(int kind, String marked) {
        Check.reads(new ExtraGuest(), true, kind, marked);
    }

    private static void tapeHasAtMostThousandSigns() {
        Check.about("TAPE has at most 1,000 signs; promise 2: what is beyond 1,000 is left out");
        ExtraGuest it = new ExtraGuest();
        for (int i = 1; i <= 41; i++) {
            Check.due("feed 24 blanks", Check.feed(it, " ".repeat(24)), 24 * i);
        }
        Check.due("984 and 15", Check.feed(it, " ".repeat(15)), 999);
        Check.due("999 and 1", Check.feed(it, " "), 1000);
        Check.due("1000 and 1", Check.feed(it, " "), 1000);
        Check.due("1000 and 24", Check.feed(it, " ".repeat(24)), 1000);
        Check.due("1000 and none", it.feed(0, 0, 0), 1000);
        Check.due("count", it.count(7), 1000);
        ExtraGuest over = new ExtraGuest();
        Check.due("of 24 at 984 come 16", Check.feed(over, " ".repeat(1008)), 1000);
        ExtraGuest last = new ExtraGuest();
        Check.feed(last, " ".repeat(994) + "night;");
        Check.due("the thousandth sign is read", last.morning(), 0);
        Check.due("its line is there", last.count(4), 1);
        Check.feed(last, " ".repeat(995) + "night;");
        Check.due("the one behind it is not", last.morning(), 1 + 16 * 1000);
        Check.feed(last, " ".repeat(994) + "night;%%%");
        Check.due("nor are more", last.morning(), 0);
    }

    private static void tapeTakesTenAndThirtyTwoToHundredTwentySix() {
        Check.about("TAPE: signs 10 and 32 .. 126; promise 2: others are left out");
        for (int sign = 0; sign < 256; sign++) {
            int due = sign == 10 || sign >= 32 && sign <= 126 ? 1 : 0;
            Check.due("feed " + sign, new ExtraGuest().feed((long) sign << 56, 0, 0), due);
        }
        int[] edges = {0, 9, 10, 11, 31, 32, 126, 127, 128, 160, 255};
        for (int sign : edges) {
            int due = sign == 10 || sign == 32 || sign == 126 ? 1 : 0;
            for (int shift = 0; shift < 64; shift += 8) {
                long at = (long) sign << shift;
                Check.due(sign + " in a at " + shift, new ExtraGuest().feed(at, 0, 0), due);
                Check.due(sign + " in b at " + shift, new ExtraGuest().feed(0, at, 0), due);
                Check.due(sign + " in c at " + shift, new ExtraGuest().feed(0, 0, at), due);
            }
        }
        ExtraGuest it = new ExtraGuest();
        Check.due("what is left out parts nothing", Check.feed(it, "\0n\ti\177g\200h\377t\r;"), 6);
        Check.due("it is night ;", it.morning(), 0);
        Check.due("a line", it.count(4), 1);
    }

    private static void feedPutsTheHighestByteFirst() {
        Check.about("Promise 2: up to 24 signs come behind the TAPE, of a, b, c, of each the highest first");
        ExtraGuest it = new ExtraGuest();
        String text = "weather\nfog;night;shows ";
        Check.due("24 come", it.feed(Check.eight(text, 0), Check.eight(text, 8), Check.eight(text, 16)), 24);
        Check.due("read from the first", it.morning(), 1 + 16 * 24);
        Check.due("one by one", it.feed(Check.eight("weathe", 0), 0, 0), 6);
        Check.due("behind", it.feed(0, Check.eight("r snow", 0), 0), 12);
        Check.due("behind", it.feed(0, 0, Check.eight(";", 0)), 13);
        Check.due("read together", it.morning(), 0);
    }

    private static void whatReadsTheTapeTakesIt() {
        Check.about("TAPE: what reads it takes it: it is empty then");
        String[] texts = {"", "night;", "guest", Inns.guests(1)};
        for (String text : texts) {
            ExtraGuest it = new ExtraGuest();
            Check.feed(it, text);
            it.inn();
            Check.due("inn of " + text, it.count(7), 0);
            Check.due("an empty tape is an inn", it.inn(), 0);
            Check.feed(it, text);
            it.morning();
            Check.due("morning of " + text, it.count(7), 0);
            Check.due("an empty tape is a morning", it.morning(), 0);
            Check.due("feed begins anew", Check.feed(it, ";"), 1);
        }
        ExtraGuest it = Inns.brimming();
        Check.due("a full tape", it.count(7), 1000);
        Check.due("is read", it.morning(), 0);
        Check.due("and can be fed", Check.feed(it, "night;"), 6);
    }

    private static void nothingBehindTheTapeIsRead() {
        Check.about("TAPE: it is empty then: what stood on it is not read again");
        String[] longer = {"bill 1234567;", "guest aaaaaaaa mad room 12 stays 99;", "bill ((1))+2;"};
        String[] shorter = {"bill 123", "guest aaa", "bill ((1)"};
        for (int i = 0; i < longer.length; i++) {
            ExtraGuest it = new ExtraGuest();
            Check.inn(it, longer[i]);
            Check.reads(it, true, 1, shorter[i] + "|");
        }
        Check.about("TAPE: the thousandth sign is a digit, a letter, a sign, a blank, none");
        for (String last : new String[] {"bill 1", "bill 123", "guest a", "guest aa", "bill (", "bill 1\n"}) {
            Check.reads(new ExtraGuest(), true, 1, " ".repeat(1000 - last.length()) + last + "|");
        }
        Check.reads(new ExtraGuest(), true, 1, " ".repeat(999) + "|%");
    }

    private static void onlyInnAndMorningReadTheTape() {
        Check.about("TAPE: what reads it takes it; nothing else does");
        ExtraGuest it = Inns.used();
        int signs = it.count(7);
        it.answer(3, 0, true);
        it.sign(0, true);
        it.weather(1);
        it.night();
        it.undo();
        it.hear(0, true);
        it.mark(1, false);
        it.mark(1, true);
        it.judged(0);
        it.spare();
        Check.due("signs on the tape", it.count(7), signs);
        Check.due("read as before", it.morning(), 1 + 16 * 13);
    }

    private static void tokensAreAsLongAsCanBe() {
        Check.about("TOKENS: each as long as can be");
        inn(1, "|guestaa mad room 1 stays 1;");
        inn(1, "guest aamad |room 1 stays 1;");
        inn(1, "guest aa mad |roomone 1 stays 1;");
        inn(4, "guest aa mad room |1212 stays 1;");
        inn(4, "guest aa mad room 1 stays |999;");
        inn(1, "bill 1 <|= 2;");
        inn(1, "bill 1 =|= 2;");
        inn(1, "bill 1 *|* 2;");
        inn(1, "bill 1;|;");
        inn(0, "bill((1))+((2));");
    }

    private static void blanksStandWhereOneLikes() {
        Check.about("TOKENS: blanks (10, 32) between where one likes");
        String text = "guest a mad room 1 stays 1 ; sign p errs 0 when ( a ) or not odd ; sees a p ; bill ( 1 ) < 2 * 3 ;";
        for (String blank : new String[] {" ", "\n", "  ", "\n\n", " \n "}) {
            inn(0, text.replace(" ", blank));
            inn(0, blank + text + blank);
        }
        inn(0, "guest a mad room1stays1;sign p errs0when(a)or not odd;sees a p;bill(1)<2*3;");
        inn(1, "|gue st a mad room 1 stays 1;");
        inn(1, "|gue\nst a mad room 1 stays 1;");
        inn(1, "guest a mad room 1 |2 stays 1;");
        inn(0, " \n \n");
    }

    private static void wordsAreOfLettersEightAtMost() {
        Check.about("WORDS: letters a .. z, 8 at most; a longer one is none at its first sign");
        for (String name : new String[] {"a", "z", "az", "aaaaaaaa", "zzzzzzzz"}) {
            inn(0, "guest " + name + " mad room 1 stays 1;sign s errs 0 when " + name + ";");
        }
        String told = "guest aaaaaaaa mad room 1 stays 1;sign zzzzzzzz errs 0 when snow;";
        inn(1, "guest |aaaaaaaaa mad room 1 stays 1;");
        inn(1, "guest |" + "a".repeat(900) + " mad room 1 stays 1;");
        inn(1, "sign |zzzzzzzzz errs 0 when snow;");
        inn(1, told + "sees |aaaaaaaaa zzzzzzzz;");
        inn(1, told + "sees aaaaaaaa |zzzzzzzzz;");
        inn(1, told + "shun |aaaaaaaaa aaaaaaaa;");
        inn(1, told + "sign t errs 0 when |aaaaaaaaa;");
        inn(1, told + "bill |nightsnights;");
        inn(1, "|weathersw");
        inn(1, "|guestguest");
        String formula = "guest a mad room 1 stays 1;sign s errs 0 when ";
        for (char other : "`{AZ@[_".toCharArray()) {
            inn(1, formula + "|" + other + ";");
            inn(1, formula + "a |" + other + ";");
            inn(1, "|" + other + "guest");
            inn(1, "|gues" + other);
            inn(1, "guest |" + other + "a mad room 1 stays 1;");
            inn(1, "guest a|" + other + " mad room 1 stays 1;");
        }
    }

    private static void numbersHaveOneToFourDigits() {
        Check.about("NUMBERS: 1 to 4 digits; a longer one is none at its first sign; a letter may stand right behind");
        for (String one : new String[] {"1", "01", "001", "0001"}) {
            inn(0, "guest a mad room " + one + "stays " + one + ";sign s errs " + one + "when a;bill " + one + ";");
        }
        inn(1, "guest a mad room |00001 stays 1;");
        inn(1, "guest a mad room 1 stays |00001;");
        inn(1, "sign s errs |00001 when snow;");
        inn(0, "bill 0;");
        inn(0, "bill 9999;");
        inn(1, "bill |10000;");
        inn(1, "bill |00000;");
        inn(1, "bill |" + "9".repeat(900) + ";");
        inn(1, "bill 9999 |1;");
        inn(1, "bill 1|a;");
        for (char other : "/:".toCharArray()) {
            inn(1, "guest a mad room |" + other + " stays 1;");
            inn(1, "sign s errs |" + other + " when snow;");
            inn(1, "bill |" + other + ";");
            inn(1, "bill 1|" + other + ";");
        }
        ExtraGuest it = Check.at("guest a mad room 0012stays 0099;");
        Check.due("0012", it.guest(0, 1), 12);
        Check.due("0099", it.guest(0, 2), 99);
        ExtraGuest digits = Check.at("guest a mad room 1 stays 90;guest b mad room 1 stays 87;bill(nights=0090)*90+(nights<90)*0;");
        Check.due("all ten digits count", digits.bill(7, 0), 7);
    }

    private static void otherSignsAreNone() {
        Check.about("TOKENS: the signs ( ) < = + - * ; all else is none");
        for (char sign = 33; sign < 127; sign++) {
            boolean letter = sign >= 'a' && sign <= 'z';
            boolean digit = sign >= '0' && sign <= '9';
            if (!letter && !digit) {
                misplaced("" + sign, 0);
            }
            if (!letter && !digit && "()<=+-*;".indexOf(sign) < 0) {
                misplaced("bill 1" + sign + "2;", 6);
            }
        }
        for (char sign : "<=+-*".toCharArray()) {
            inn(0, "bill 1" + sign + "2;");
        }
        inn(0, "bill(1);");
        inn(1, "bill(1|(;");
        inn(1, "bill |)1);");
        inn(1, "bill(1|;);");
    }

    /** For texts with the sign | itself. */
    private static void misplaced(String text, int place) {
        ExtraGuest it = new ExtraGuest();
        Check.feed(it, text);
        Check.due(text, it.inn(), 1 + 16 * place);
    }

    public static void main(String[] args) {
        tapeHasAtMostThousandSigns();
        tapeTakesTenAndThirtyTwoToHundredTwentySix();
        feedPutsTheHighestByteFirst();
        whatReadsTheTapeTakesIt();
        nothingBehindTheTapeIsRead();
        onlyInnAndMorningReadTheTape();
        tokensAreAsLongAsCanBe();
        blanksStandWhereOneLikes();
        wordsAreOfLettersEightAtMost();
        numbersHaveOneToFourDigits();
        otherSignsAreNone();
        Check.end();
    }
}

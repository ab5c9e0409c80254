/**
 * The inn with one guest too many. What each call promises stands in ../shared/DOC.md; the words in
 * capitals here are that document's.
 *
 * <p>A set of WORLDS is an int with bit guest * 4 + weather, a set of GUESTS or SIGNS an int with
 * their bits. All rows are made in the constructor and used again, so that no call makes an object.
 */
public final class ExtraGuest {

    public static final int NONE = -1;

    /** What some calls answer for others, where NONE has a meaning already. */
    private static final int OTHERS = -2;

    private static final int GUESTS = 8;
    private static final int SIGNS = 6;
    private static final int WEATHERS = 4;
    private static final int WORLDS = GUESTS * WEATHERS;
    private static final int GUEST_SETS = 1 << GUESTS;
    private static final int ROOMS = 12;
    private static final int LONGEST_STAY = 99;
    private static final int TEN = 10;
    private static final int LAST_NIGHT = 10;
    private static final int MOST_HEARD = 8;
    private static final int MOST_UNDONE = 16;
    private static final int MARKS = 4;
    private static final int LINES = 24;
    private static final int TAPE_SIGNS = 1000;
    private static final int WORD_LETTERS = 8;
    private static final int NUMBER_DIGITS = 4;
    private static final int NESTING = 5;
    private static final int MOST_SHARE = 99;
    private static final int MOST_PENNIES = 9999;
    private static final int MOST_SEED = 9999;
    private static final int MOST_NIGHTS = 100;
    private static final int BED_ROOM = 3;
    private static final int MILLION = 1000000;
    private static final int THOUSAND = 1000;

    private static final int PLAIN_KIND = 0;
    private static final int HONEST_KIND = 1;
    private static final int LIAR_KIND = 2;
    private static final int MAD_KIND = 3;

    private static final int MISPLACED = 1;
    private static final int NOT_TOLD = 2;
    private static final int TOLD_ALREADY = 3;
    private static final int BAD_NUMBER = 4;
    private static final int TOO_MANY = 5;

    /** The words with a meaning; a token's kind is its word's place here. The last three may be NAMES. */
    private static final String KEY_TEXT =
            "guest room stays sign errs when sees shun bill says shows hides weather night plain honest liar mad clear snow fog wind odd low alone old not and or door nights many ";
    private static final int KEY_GUEST = 0;
    private static final int KEY_ROOM = 1;
    private static final int KEY_STAYS = 2;
    private static final int KEY_SIGN = 3;
    private static final int KEY_ERRS = 4;
    private static final int KEY_WHEN = 5;
    private static final int KEY_SEES = 6;
    private static final int KEY_SHUN = 7;
    private static final int KEY_BILL = 8;
    private static final int KEY_SAYS = 9;
    private static final int KEY_SHOWS = 10;
    private static final int KEY_WEATHER = 12;
    private static final int KEY_NIGHT = 13;
    private static final int KEY_PLAIN = 14;
    private static final int KEY_MAD = 17;
    private static final int KEY_CLEAR = 18;
    private static final int KEY_WIND = 21;
    private static final int KEY_ODD = 22;
    private static final int KEY_LOW = 23;
    private static final int KEY_ALONE = 24;
    private static final int KEY_OLD = 25;
    private static final int KEY_NOT = 26;
    private static final int KEY_AND = 27;
    private static final int KEY_OR = 28;
    private static final int KEY_DOOR = 29;
    private static final int KEY_NIGHTS = 30;
    private static final int KEY_MANY = 31;
    private static final int KEYS = 32;

    /** Kinds of tokens that are no key; a sign such as ( has its character for its kind. */
    private static final int NAME = 32;
    private static final int NUMBER = 33;
    private static final int END = 34;
    private static final int NO_TOKEN = 35;

    private final Tape tape;
    private final Reader reader;
    private Inn house;
    private Inn nextHouse;
    private Morning lines;
    private Morning nextLines;
    private final Book book;
    private final Book[] marks;
    private final boolean[] laid;
    private final Questions questions;
    private final Chances chances;
    private final Landlord landlord;

    public ExtraGuest() {
        reader = new Reader();
        tape = reader.tape;
        house = new Inn();
        nextHouse = new Inn();
        lines = new Morning();
        nextLines = new Morning();
        book = new Book();
        marks = new Book[MARKS];
        for (int i = 0; i < MARKS; i++) {
            marks[i] = new Book();
        }
        laid = new boolean[MARKS];
        questions = new Questions();
        chances = new Chances();
        landlord = new Landlord();
    }

    public int feed(long a, long b, long c) {
        tape.put(a);
        tape.put(b);
        tape.put(c);
        return tape.length;
    }

    public int inn() {
        int fault = reader.readInn(nextHouse);
        if (fault == 0) {
            Inn old = house;
            house = nextHouse;
            nextHouse = old;
            lines.lines = 0;
            book.open(house.all());
            for (int i = 0; i < MARKS; i++) {
                laid[i] = false;
            }
        }
        return fault;
    }

    public int morning() {
        int fault = reader.readMorning(house, nextLines);
        if (fault == 0) {
            Morning old = lines;
            lines = nextLines;
            nextLines = old;
        }
        return fault;
    }

    public int guest(int guest, int what) {
        if (!house.hasGuest(guest)) {
            return NONE;
        }
        switch (what) {
            case 0:
                return house.kinds[guest];
            case 1:
                return house.rooms[guest];
            case 2:
                return house.stays[guest];
            case 3:
                return house.sees[guest];
            case 4:
                return house.shuns[guest];
            default:
                return NONE;
        }
    }

    public int shows(int world) {
        return house.hasWorld(world) ? house.shown[world] : NONE;
    }

    public int left() {
        return book.left;
    }

    public int answer(int asked, int about, boolean yes) {
        if (!house.hasGuest(asked) || !house.hasGuest(about)) {
            return NONE;
        }
        int so = house.worldsOf(about);
        return leave(house.sayable(asked, yes ? so : ~so));
    }

    public int sign(int sign, boolean shown) {
        return house.hasSign(sign) ? leave(house.worldsShowing(sign, shown)) : NONE;
    }

    public int weather(int weather) {
        if (weather < 0 || weather >= WEATHERS) {
            return NONE;
        }
        return leave(house.worldsBy(KEY_CLEAR + weather));
    }

    public int night() {
        if (house.guests == 0 || book.nights >= LAST_NIGHT) {
            return NONE;
        }
        int kept = house.guestsIn(book.left);
        book.endNight(kept, house.all());
        return kept;
    }

    public boolean undo() {
        return book.stepBack();
    }

    public int judged(int what) {
        switch (what) {
            case 0:
                return lines.firstThatCannotBe(house.all());
            case 1:
                return Integer.bitCount(lines.leftAtLast(house.all(), NONE));
            case 2:
                return onlyOne(house.guestsIn(lines.leftAtLast(house.all(), NONE)));
            default:
                return OTHERS;
        }
    }

    public int spare() {
        return lines.needless(house.all());
    }

    public int who() {
        return house.guestsIn(book.left);
    }

    public int ask() {
        return Questions.best(house, book.left);
    }

    public int fewest() {
        return questions.deepest(house, book.left);
    }

    public int tell() {
        return Minds.tellingSigns(house, book.left);
    }

    public int knows(int guest, int world) {
        if (!house.hasGuest(guest) || !isLeft(world)) {
            return NONE;
        }
        return house.guestsIn(Minds.view(house, guest, world, book.left));
    }

    public int sure(int guest, int other, int world) {
        if (!house.hasGuest(guest) || !house.hasGuest(other) || guest == other || !isLeft(world)) {
            return NONE;
        }
        int view = Minds.view(house, guest, world, book.left);
        return (view & ~Minds.knowing(house, other, book.left)) == 0 ? 1 : 0;
    }

    public int rounds(int world, int what) {
        if (!isLeft(world) || what < 0 || what > 1) {
            return NONE;
        }
        return Minds.sayingRounds(house, world, book.left, what == 1);
    }

    public int common(int world) {
        return isLeft(world) ? house.guestsIn(Minds.reached(house, world, book.left)) : NONE;
    }

    public boolean hear(int sign, boolean shown) {
        return house.hasSign(sign) && book.hearAlso(sign, shown);
    }

    public int likely() {
        return Chances.mostLikely(house, book);
    }

    public int odds(int guest) {
        return house.hasGuest(guest) ? Chances.share(house, book, guest) : NONE;
    }

    public int errors(int guest, int sign, int what) {
        if (!house.hasGuest(guest) || !house.hasSign(sign) || what < 0 || what > 1) {
            return NONE;
        }
        return Chances.wrongly(house, book.left, guest, sign, what == 1);
    }

    public int hunt(int what) {
        return what < 0 ? NONE : chances.search(house, house.guestsIn(book.left), what);
    }

    public int same(int what) {
        switch (what) {
            case 0:
                return book.inAllNights(house.guestsIn(book.left));
            case 1:
                return book.firstNightWithNone(house.guestsIn(book.left));
            default:
                return OTHERS;
        }
    }

    public int bill(int pennies, int guest) {
        if (pennies < 0 || pennies > MOST_PENNIES || !house.hasGuest(guest)) {
            return NONE;
        }
        return Landlord.payment(house, pennies, guest);
    }

    public int beds(int guest) {
        if (guest != NONE && !house.hasGuest(guest)) {
            return OTHERS;
        }
        int rooms = landlord.bedAll(house);
        return guest == NONE ? rooms : landlord.bedRoom[guest];
    }

    public int watch(int many, int far) {
        if (many < 1 || many > 2 || far < 0 || far >= ROOMS) {
            return NONE;
        }
        return landlord.awake(house, many, far);
    }

    public int years(int seed, int nights, int what) {
        if (seed < 0 || seed > MOST_SEED || nights < 1 || nights > MOST_NIGHTS) {
            return NONE;
        }
        if (what < 0 || what > 2 || house.guests == 0) {
            return NONE;
        }
        return Minds.drawnYears(house, seed, nights, what);
    }

    public boolean mark(int mark, boolean back) {
        if (mark < 0 || mark >= MARKS) {
            return false;
        }
        if (!back) {
            marks[mark].copy(book);
            laid[mark] = true;
            return true;
        }
        if (laid[mark]) {
            book.copy(marks[mark]);
        }
        return laid[mark];
    }

    public int count(int what) {
        switch (what) {
            case 0:
                return house.guests;
            case 1:
                return house.signs;
            case 2:
                return Integer.bitCount(book.left);
            case 3:
                return book.nights;
            case 4:
                return lines.lines;
            case 5:
                return book.heard;
            case 6:
                return book.undoable;
            case 7:
                return tape.length;
            default:
                return NONE;
        }
    }

    private int leave(int worlds) {
        return book.narrow(worlds) ? Integer.bitCount(book.left) : NONE;
    }

    private boolean isLeft(int world) {
        return house.hasWorld(world) && (book.left >>> world & 1) == 1;
    }

    /** The guest of a set with one guest, else NONE. */
    private static int onlyOne(int guests) {
        return Integer.bitCount(guests) == 1 ? Integer.numberOfTrailingZeros(guests) : NONE;
    }

    /** The TAPE, and the token that is read on it. */
    private static final class Tape {
        final byte[] signs = new byte[TAPE_SIGNS];
        final long[] keys = new long[KEYS];
        int length;
        int kind;
        int place;
        int end;
        long word;
        int number;

        Tape() {
            int key = 0;
            long packed = 0;
            for (int i = 0; i < KEY_TEXT.length() && key < KEYS; i++) {
                char letter = KEY_TEXT.charAt(i);
                if (letter == ' ') {
                    keys[key] = packed;
                    key++;
                    packed = 0;
                } else {
                    packed = packed << 8 | letter;
                }
            }
        }

        void put(long bytes) {
            for (int shift = 56; shift >= 0; shift -= 8) {
                int sign = (int) (bytes >>> shift & 255);
                boolean taken = sign == '\n' || sign >= ' ' && sign <= '~';
                if (taken && length < TAPE_SIGNS) {
                    signs[length] = (byte) sign;
                    length++;
                }
            }
        }

        void begin() {
            end = 0;
            advance();
        }

        void advance() {
            int at = end;
            while (at < length && (signs[at] == '\n' || signs[at] == ' ')) {
                at++;
            }
            place = at;
            end = at;
            if (at >= length) {
                kind = END;
            } else if (signs[at] >= 'a' && signs[at] <= 'z') {
                readWord();
            } else if (signs[at] >= '0' && signs[at] <= '9') {
                readNumber();
            } else {
                end = at + 1;
                kind = "()<=+-*;".indexOf((char) signs[at]) < 0 ? NO_TOKEN : signs[at];
            }
        }

        boolean isName() {
            return kind >= KEY_DOOR && kind <= NAME;
        }

        private void readWord() {
            word = 0;
            while (end < length && signs[end] >= 'a' && signs[end] <= 'z') {
                word = word << 8 | signs[end];
                end++;
            }
            kind = end - place > WORD_LETTERS ? NO_TOKEN : NAME;
            for (int i = 0; i < KEYS && kind == NAME; i++) {
                if (keys[i] == word) {
                    kind = i;
                }
            }
        }

        private void readNumber() {
            number = 0;
            while (end < length && signs[end] >= '0' && signs[end] <= '9') {
                number = number * 10 + signs[end] - '0';
                end++;
            }
            kind = end - place > NUMBER_DIGITS ? NO_TOKEN : NUMBER;
        }
    }

    /**
     * FORMULAS and the E of bill with each operation behind its parts: they are worked out when all
     * GUESTS are told, for a SIGN may be told before a GUEST that it speaks of by odd or alone.
     */
    private static final class Code {
        /** Each operation puts one token at least to use, so a full TAPE fits. */
        final int[] kinds = new int[TAPE_SIGNS];
        final int[] parts = new int[TAPE_SIGNS];
        final int[] stack = new int[64];
        int size;
        int top;

        void put(int kind, int part) {
            if (size < TAPE_SIGNS) {
                kinds[size] = kind;
                parts[size] = part;
                size++;
            }
        }

        /** The WORLDS in which a FORMULA is so. */
        int worlds(Inn inn, int from, int to) {
            top = 0;
            for (int i = from; i < to && i < TAPE_SIGNS; i++) {
                int kind = kinds[i];
                if (kind == KEY_NOT) {
                    push(~pop());
                } else if (kind == KEY_AND) {
                    push(pop() & pop());
                } else if (kind == KEY_OR) {
                    push(pop() | pop());
                } else if (kind == KEY_GUEST) {
                    push(inn.worldsOf(parts[i]));
                } else if (kind == KEY_SIGN) {
                    push(inn.worldsShowing(parts[i], true));
                } else {
                    push(inn.worldsBy(kind));
                }
            }
            return pop() & inn.all();
        }

        /** What the E of bill is for a GUEST. */
        int amount(Inn inn, int guest, int from, int to) {
            top = 0;
            for (int i = from; i < to && i < TAPE_SIGNS; i++) {
                switch (kinds[i]) {
                    case NUMBER:
                        push(parts[i]);
                        break;
                    case KEY_DOOR:
                        push(inn.rooms[guest]);
                        break;
                    case KEY_NIGHTS:
                        push(inn.stays[guest]);
                        break;
                    case KEY_MANY:
                        push(inn.guests);
                        break;
                    case KEY_NOT:
                        push(pop() == 0 ? 1 : 0);
                        break;
                    default:
                        int right = pop();
                        push(joined(kinds[i], pop(), right));
                        break;
                }
            }
            return pop();
        }

        private static int joined(int kind, int one, int two) {
            switch (kind) {
                case '+':
                    return one + two;
                case '-':
                    return one - two;
                case '*':
                    return one * two;
                case '<':
                    return one < two ? 1 : 0;
                case '=':
                    return one == two ? 1 : 0;
                case KEY_AND:
                    return one != 0 && two != 0 ? 1 : 0;
                default:
                    return one != 0 || two != 0 ? 1 : 0;
            }
        }

        private void push(int value) {
            if (top < stack.length) {
                stack[top] = value;
                top++;
            }
        }

        private int pop() {
            if (top <= 0) {
                return 0;
            }
            top--;
            return stack[top];
        }
    }

    /** Reads FORMULAS, Es and NAMES; what answers false, or NONE, has kept the FAULT. */
    private static final class Grammar {
        final Tape tape = new Tape();
        final Code code = new Code();
        Inn inn;
        int fault;

        void begin(Inn names) {
            inn = names;
            fault = 0;
            code.size = 0;
            tape.begin();
        }

        boolean fail(int kind) {
            fault = kind + 16 * tape.place;
            return false;
        }

        boolean take(int kind) {
            if (tape.kind != kind) {
                return fail(MISPLACED);
            }
            tape.advance();
            return true;
        }

        /** The NAME of a GUEST told; the token stays, for the caller may find a FAULT in it yet. */
        int namedGuest() {
            return named(inn.guestNamed(tape.word));
        }

        int namedSign() {
            return named(inn.signNamed(tape.word));
        }

        private int named(int found) {
            if (!tape.isName()) {
                fail(MISPLACED);
                return NONE;
            }
            if (found == NONE) {
                fail(NOT_TOLD);
            }
            return found;
        }

        private boolean formula(int depth) {
            boolean good = term(depth);
            for (int n = 0; n < TAPE_SIGNS && good && tape.kind == KEY_OR; n++) {
                tape.advance();
                good = term(depth);
                code.put(KEY_OR, 0);
            }
            return good;
        }

        private boolean term(int depth) {
            boolean good = item(depth);
            for (int n = 0; n < TAPE_SIGNS && good && tape.kind == KEY_AND; n++) {
                tape.advance();
                good = item(depth);
                code.put(KEY_AND, 0);
            }
            return good;
        }

        private boolean item(int depth) {
            int kind = tape.kind;
            boolean name = tape.isName();
            boolean fact = kind >= KEY_CLEAR && kind <= KEY_OLD;
            if (!name && !fact && kind != KEY_NOT && kind != '(') {
                return fail(MISPLACED);
            }
            int guest = inn.guestNamed(tape.word);
            int sign = inn.signNamed(tape.word);
            if (name && guest == NONE && sign == NONE) {
                return fail(NOT_TOLD);
            }
            if (depth >= NESTING) {
                return fail(TOO_MANY);
            }
            tape.advance();
            if (kind == KEY_NOT) {
                boolean good = item(depth + 1);
                code.put(KEY_NOT, 0);
                return good;
            }
            if (kind == '(') {
                return formula(depth + 1) && take(')');
            }
            if (!name) {
                code.put(kind, 0);
            } else if (guest != NONE) {
                code.put(KEY_GUEST, guest);
            } else {
                code.put(KEY_SIGN, sign);
            }
            return true;
        }

        private boolean expression(int depth) {
            boolean good = test(depth);
            for (int n = 0; n < TAPE_SIGNS && good; n++) {
                int kind = tape.kind;
                if (kind != KEY_AND && kind != KEY_OR) {
                    break;
                }
                tape.advance();
                good = test(depth);
                code.put(kind, 0);
            }
            return good;
        }

        private boolean test(int depth) {
            boolean good = sum(depth);
            int kind = tape.kind;
            if (good && (kind == '<' || kind == '=')) {
                tape.advance();
                good = sum(depth);
                code.put(kind, 0);
            }
            return good;
        }

        private boolean sum(int depth) {
            boolean good = product(depth);
            for (int n = 0; n < TAPE_SIGNS && good; n++) {
                int kind = tape.kind;
                if (kind != '+' && kind != '-') {
                    break;
                }
                tape.advance();
                good = product(depth);
                code.put(kind, 0);
            }
            return good;
        }

        private boolean product(int depth) {
            boolean good = part(depth);
            for (int n = 0; n < TAPE_SIGNS && good && tape.kind == '*'; n++) {
                tape.advance();
                good = part(depth);
                code.put('*', 0);
            }
            return good;
        }

        private boolean part(int depth) {
            int kind = tape.kind;
            boolean value = kind == NUMBER || kind >= KEY_DOOR && kind <= KEY_MANY;
            if (!value && kind != KEY_NOT && kind != '(') {
                return fail(MISPLACED);
            }
            if (depth >= NESTING) {
                return fail(TOO_MANY);
            }
            int number = tape.number;
            tape.advance();
            if (kind == KEY_NOT) {
                boolean good = part(depth + 1);
                code.put(KEY_NOT, 0);
                return good;
            }
            if (kind == '(') {
                return expression(depth + 1) && take(')');
            }
            code.put(kind, number);
            return true;
        }
    }

    /** Reads the TAPE, which it takes, as an INN or a MORNING; 0 is answered, or the FAULT. */
    private static final class Reader {
        final Grammar grammar = new Grammar();
        final Tape tape = grammar.tape;
        final int[] signFrom = new int[SIGNS];
        final int[] signTo = new int[SIGNS];
        int billFrom;
        int billTo;
        boolean billTold;

        int readInn(Inn inn) {
            inn.clear();
            billTold = false;
            grammar.begin(inn);
            boolean good = true;
            for (int n = 0; n < TAPE_SIGNS && good && tape.kind != END; n++) {
                good = innLine(inn);
            }
            tape.length = 0;
            if (good) {
                workOut(inn);
            }
            return grammar.fault;
        }

        int readMorning(Inn inn, Morning morning) {
            morning.lines = 0;
            grammar.begin(inn);
            boolean good = true;
            for (int n = 0; n < TAPE_SIGNS && good && tape.kind != END; n++) {
                good = morningLine(inn, morning);
            }
            tape.length = 0;
            return grammar.fault;
        }

        private boolean innLine(Inn inn) {
            switch (tape.kind) {
                case KEY_GUEST:
                    return guestLine(inn);
                case KEY_SIGN:
                    return signLine(inn);
                case KEY_SEES:
                    return seesLine(inn);
                case KEY_SHUN:
                    return shunLine(inn);
                case KEY_BILL:
                    return billLine();
                default:
                    return grammar.fail(MISPLACED);
            }
        }

        private boolean guestLine(Inn inn) {
            if (inn.guests >= GUESTS) {
                return grammar.fail(TOO_MANY);
            }
            tape.advance();
            long name = tape.word;
            if (!newName(inn)) {
                return false;
            }
            int kind = tape.kind - KEY_PLAIN;
            if (tape.kind < KEY_PLAIN || tape.kind > KEY_MAD) {
                return grammar.fail(MISPLACED);
            }
            tape.advance();
            int room = numberBehind(KEY_ROOM, 1, ROOMS);
            if (room == NONE) {
                return false;
            }
            int stays = numberBehind(KEY_STAYS, 1, LONGEST_STAY);
            if (stays == NONE) {
                return false;
            }
            inn.addGuest(name, kind, room, stays);
            return grammar.take(';');
        }

        private boolean signLine(Inn inn) {
            int sign = inn.signs;
            if (sign >= SIGNS) {
                return grammar.fail(TOO_MANY);
            }
            tape.advance();
            long name = tape.word;
            if (!newName(inn)) {
                return false;
            }
            int errs = numberBehind(KEY_ERRS, 0, TEN);
            if (errs == NONE) {
                return false;
            }
            signFrom[sign] = grammar.code.size;
            if (!grammar.take(KEY_WHEN) || !grammar.formula(0)) {
                return false;
            }
            signTo[sign] = grammar.code.size;
            inn.addSign(name, errs);
            return grammar.take(';');
        }

        private boolean seesLine(Inn inn) {
            tape.advance();
            int guest = grammar.namedGuest();
            if (guest == NONE) {
                return false;
            }
            if (inn.sees[guest] != 0) {
                return grammar.fail(TOLD_ALREADY);
            }
            tape.advance();
            int seen = 0;
            for (int n = 0; n <= SIGNS; n++) {
                if (n > 0 && tape.kind == ';') {
                    break;
                }
                int sign = grammar.namedSign();
                if (sign == NONE) {
                    return false;
                }
                if ((seen >>> sign & 1) == 1) {
                    return grammar.fail(TOLD_ALREADY);
                }
                seen |= 1 << sign;
                tape.advance();
            }
            inn.sees[guest] = seen;
            return grammar.take(';');
        }

        private boolean shunLine(Inn inn) {
            tape.advance();
            int one = grammar.namedGuest();
            if (one == NONE) {
                return false;
            }
            tape.advance();
            int two = grammar.namedGuest();
            if (two == NONE) {
                return false;
            }
            if (one == two || (inn.shuns[one] >>> two & 1) == 1) {
                return grammar.fail(TOLD_ALREADY);
            }
            inn.shuns[one] |= 1 << two;
            inn.shuns[two] |= 1 << one;
            tape.advance();
            return grammar.take(';');
        }

        private boolean billLine() {
            if (billTold) {
                return grammar.fail(TOLD_ALREADY);
            }
            billTold = true;
            tape.advance();
            billFrom = grammar.code.size;
            if (!grammar.expression(0)) {
                return false;
            }
            billTo = grammar.code.size;
            return grammar.take(';');
        }

        private boolean morningLine(Inn inn, Morning morning) {
            int first = tape.kind;
            if (first < KEY_SAYS || first > KEY_NIGHT) {
                return grammar.fail(MISPLACED);
            }
            if (morning.lines >= LINES) {
                return grammar.fail(TOO_MANY);
            }
            tape.advance();
            int worlds = 0;
            if (first == KEY_SAYS) {
                int guest = grammar.namedGuest();
                if (guest == NONE) {
                    return false;
                }
                tape.advance();
                grammar.code.size = 0;
                if (!grammar.formula(0)) {
                    return false;
                }
                worlds = inn.sayable(guest, grammar.code.worlds(inn, 0, grammar.code.size));
            } else if (first == KEY_WEATHER) {
                if (tape.kind < KEY_CLEAR || tape.kind > KEY_WIND) {
                    return grammar.fail(MISPLACED);
                }
                worlds = inn.worldsBy(tape.kind);
                tape.advance();
            } else if (first != KEY_NIGHT) {
                int sign = grammar.namedSign();
                if (sign == NONE) {
                    return false;
                }
                worlds = inn.worldsShowing(sign, first == KEY_SHOWS);
                tape.advance();
            }
            morning.add(worlds, first == KEY_NIGHT);
            return grammar.take(';');
        }

        private boolean newName(Inn inn) {
            if (!tape.isName()) {
                return grammar.fail(MISPLACED);
            }
            if (inn.guestNamed(tape.word) != NONE || inn.signNamed(tape.word) != NONE) {
                return grammar.fail(TOLD_ALREADY);
            }
            tape.advance();
            return true;
        }

        /** The NUMBER behind a word, or NONE with the FAULT kept. */
        private int numberBehind(int key, int least, int most) {
            if (!grammar.take(key)) {
                return NONE;
            }
            int number = tape.number;
            if (tape.kind != NUMBER) {
                grammar.fail(MISPLACED);
                return NONE;
            }
            if (number < least || number > most) {
                grammar.fail(BAD_NUMBER);
                return NONE;
            }
            tape.advance();
            return number;
        }

        private void workOut(Inn inn) {
            for (int sign = 0; sign < inn.signs && sign < SIGNS; sign++) {
                inn.letShow(sign, grammar.code.worlds(inn, signFrom[sign], signTo[sign]));
            }
            for (int guest = 0; guest < inn.guests; guest++) {
                int amount = billTold ? grammar.code.amount(inn, guest, billFrom, billTo) : 1;
                inn.shares[guest] = Math.max(0, Math.min(MOST_SHARE, amount));
            }
        }
    }

    /** An INN as told. */
    private static final class Inn {
        int guests;
        final long[] guestNames = new long[GUESTS];
        final int[] kinds = new int[GUESTS];
        final int[] rooms = new int[GUESTS];
        final int[] stays = new int[GUESTS];
        final int[] sees = new int[GUESTS];
        final int[] shuns = new int[GUESTS];
        final int[] shares = new int[GUESTS];
        int signs;
        final long[] signNames = new long[SIGNS];
        final int[] errs = new int[SIGNS];
        /** By SIGN, the WORLDS in which it SHOWS; and by WORLD, the SIGNS. */
        final int[] showing = new int[SIGNS];
        final int[] shown = new int[WORLDS];

        void clear() {
            guests = 0;
            signs = 0;
            for (int world = 0; world < WORLDS; world++) {
                shown[world] = 0;
            }
        }

        void addGuest(long name, int kind, int room, int nights) {
            if (guests < GUESTS) {
                guestNames[guests] = name;
                kinds[guests] = kind;
                rooms[guests] = room;
                stays[guests] = nights;
                sees[guests] = 0;
                shuns[guests] = 0;
                guests++;
            }
        }

        void addSign(long name, int wrong) {
            if (signs < SIGNS) {
                signNames[signs] = name;
                errs[signs] = wrong;
                showing[signs] = 0;
                signs++;
            }
        }

        void letShow(int sign, int worlds) {
            showing[sign] = worlds;
            for (int world = 0; world < WORLDS; world++) {
                shown[world] |= (worlds >>> world & 1) << sign;
            }
        }

        int guestNamed(long name) {
            for (int i = 0; i < guests; i++) {
                if (guestNames[i] == name) {
                    return i;
                }
            }
            return NONE;
        }

        int signNamed(long name) {
            for (int i = 0; i < signs; i++) {
                if (signNames[i] == name) {
                    return i;
                }
            }
            return NONE;
        }

        boolean hasGuest(int guest) {
            return guest >= 0 && guest < guests;
        }

        boolean hasSign(int sign) {
            return sign >= 0 && sign < signs;
        }

        boolean hasWorld(int world) {
            return world >= 0 && world < guests * WEATHERS;
        }

        int all() {
            return guests == 0 ? 0 : -1 >>> WORLDS - guests * WEATHERS;
        }

        int worldsOf(int guest) {
            return 15 << guest * WEATHERS;
        }

        int worldsShowing(int sign, boolean shows) {
            if (!hasSign(sign)) {
                return 0;
            }
            return shows ? showing[sign] : all() & ~showing[sign];
        }

        int guestsIn(int worlds) {
            int found = 0;
            for (int guest = 0; guest < guests; guest++) {
                if ((worlds & worldsOf(guest)) != 0) {
                    found |= 1 << guest;
                }
            }
            return found;
        }

        /** The WORLDS of a WEATHER, or those of odd, low, alone and old. */
        int worldsBy(int key) {
            if (key >= KEY_CLEAR && key <= KEY_WIND) {
                return all() & 0x11111111 << key - KEY_CLEAR;
            }
            int found = 0;
            for (int guest = 0; guest < guests; guest++) {
                if (isSo(key, guest)) {
                    found |= worldsOf(guest);
                }
            }
            return found;
        }

        private boolean isSo(int key, int guest) {
            switch (key) {
                case KEY_ODD:
                    return (rooms[guest] & 1) == 1;
                case KEY_LOW:
                    return rooms[guest] <= 6;
                case KEY_ALONE:
                    return isAlone(guest);
                default:
                    return stays[guest] >= 10;
            }
        }

        private boolean isAlone(int guest) {
            for (int other = 0; other < guests; other++) {
                if (other != guest && rooms[other] == rooms[guest]) {
                    return false;
                }
            }
            return true;
        }

        /** The WORLDS in which a GUEST can SAY what is so in some WORLDS. */
        int sayable(int guest, int so) {
            if (!hasGuest(guest)) {
                return 0;
            }
            int turned = so ^ worldsOf(guest);
            switch (kinds[guest]) {
                case PLAIN_KIND:
                    return all() & turned;
                case HONEST_KIND:
                    return all() & so;
                case LIAR_KIND:
                    return all() & ~turned;
                default:
                    return all();
            }
        }
    }

    /** The lines of a MORNING, each by the WORLDS that go with it. */
    private static final class Morning {
        int lines;
        final int[] goes = new int[LINES];
        final boolean[] nightEnds = new boolean[LINES];

        void add(int worlds, boolean ends) {
            if (lines < LINES) {
                goes[lines] = worlds;
                nightEnds[lines] = ends;
                lines++;
            }
        }

        int firstThatCannotBe(int all) {
            int left = all;
            for (int i = 0; i < lines; i++) {
                if (!nightEnds[i] && (left & goes[i]) == 0) {
                    return i;
                }
                left = behind(i, left, all);
            }
            return NONE;
        }

        /** The WORLDS LEFT at last, without one line (NONE: with all). */
        int leftAtLast(int all, int without) {
            int left = all;
            for (int i = 0; i < lines; i++) {
                if (i != without) {
                    left = behind(i, left, all);
                }
            }
            return left;
        }

        int needless(int all) {
            int last = leftAtLast(all, NONE);
            int found = 0;
            for (int i = 0; i < lines; i++) {
                if (leftAtLast(all, i) == last) {
                    found |= 1 << i;
                }
            }
            return found;
        }

        private int behind(int line, int left, int all) {
            if (nightEnds[line]) {
                return all;
            }
            int narrowed = left & goes[line];
            return narrowed == 0 ? left : narrowed;
        }
    }

    /** What was done by hand: WORLDS LEFT, nights kept, what is HEARD, and what can be undone. */
    private static final class Book {
        int left;
        int nights;
        final int[] kept = new int[LAST_NIGHT];
        int heard;
        final int[] heardSign = new int[MOST_HEARD];
        final boolean[] heardShown = new boolean[MOST_HEARD];
        int undoable;
        final int[] leftBefore = new int[MOST_UNDONE];
        final int[] nightsBefore = new int[MOST_UNDONE];

        void open(int all) {
            left = all;
            nights = 0;
            heard = 0;
            undoable = 0;
        }

        /** Takes another one's state, but nothing of it can be undone. */
        void copy(Book other) {
            open(other.left);
            nights = other.nights;
            for (int i = 0; i < LAST_NIGHT; i++) {
                kept[i] = other.kept[i];
            }
            heard = other.heard;
            for (int i = 0; i < MOST_HEARD; i++) {
                heardSign[i] = other.heardSign[i];
                heardShown[i] = other.heardShown[i];
            }
        }

        boolean narrow(int worlds) {
            int narrowed = left & worlds;
            if (narrowed == 0) {
                return false;
            }
            remember();
            left = narrowed;
            return true;
        }

        void endNight(int guests, int all) {
            if (nights < LAST_NIGHT) {
                remember();
                kept[nights] = guests;
                nights++;
                left = all;
            }
        }

        private void remember() {
            if (undoable >= MOST_UNDONE) {
                for (int i = 1; i < MOST_UNDONE; i++) {
                    leftBefore[i - 1] = leftBefore[i];
                    nightsBefore[i - 1] = nightsBefore[i];
                }
                undoable = MOST_UNDONE - 1;
            }
            leftBefore[undoable] = left;
            nightsBefore[undoable] = nights;
            undoable++;
        }

        boolean stepBack() {
            if (undoable <= 0) {
                return false;
            }
            undoable--;
            left = leftBefore[undoable];
            nights = nightsBefore[undoable];
            return true;
        }

        boolean hearAlso(int sign, boolean shown) {
            if (heard >= MOST_HEARD) {
                return false;
            }
            heardSign[heard] = sign;
            heardShown[heard] = shown;
            heard++;
            return true;
        }

        int inAllNights(int now) {
            int guests = now;
            for (int i = 0; i < nights; i++) {
                guests &= kept[i];
            }
            return guests;
        }

        int firstNightWithNone(int now) {
            int guests = GUEST_SETS - 1;
            for (int i = 0; i < nights; i++) {
                guests &= kept[i];
                if (guests == 0) {
                    return i;
                }
            }
            return (guests & now) == 0 ? nights : NONE;
        }
    }

    /** Whom to ask about whom. */
    private static final class Questions {
        /** The GUESTS for whom a question is answered with yes, for all that part those of WHO. */
        final int[] yeses = new int[GUESTS * GUESTS];
        /** By a set of GUESTS: how many questions are enough, NONE if none are. */
        final int[] enough = new int[GUEST_SETS];

        static int best(Inn inn, int left) {
            int least = Integer.bitCount(inn.guestsIn(left));
            int found = NONE;
            for (int asked = 0; asked < inn.guests; asked++) {
                for (int about = 0; about < inn.guests; about++) {
                    int so = inn.worldsOf(about);
                    int yes = Integer.bitCount(inn.guestsIn(left & inn.sayable(asked, so)));
                    int no = Integer.bitCount(inn.guestsIn(left & inn.sayable(asked, ~so)));
                    int most = Math.max(yes, no);
                    if (most < least) {
                        least = most;
                        found = asked * GUESTS + about;
                    }
                }
            }
            return found;
        }

        int deepest(Inn inn, int left) {
            int who = inn.guestsIn(left);
            if (who == 0) {
                return NONE;
            }
            int parting = findParting(inn, left, who);
            for (int set = 1; set <= who && set < GUEST_SETS; set++) {
                if ((set & ~who) == 0) {
                    enough[set] = Integer.bitCount(set) == 1 ? 0 : bestPart(set, parting);
                }
            }
            return enough[who];
        }

        private int findParting(Inn inn, int left, int who) {
            int parting = 0;
            for (int asked = 0; asked < inn.guests; asked++) {
                for (int about = 0; about < inn.guests; about++) {
                    int yes = inn.guestsIn(left & inn.sayable(asked, inn.worldsOf(about)));
                    boolean parts = inn.kinds[asked] != MAD_KIND && yes != 0 && yes != who;
                    if (parts && parting < yeses.length && isNew(yes, parting)) {
                        yeses[parting] = yes;
                        parting++;
                    }
                }
            }
            return parting;
        }

        private boolean isNew(int yes, int parting) {
            for (int i = 0; i < parting; i++) {
                if (yeses[i] == yes) {
                    return false;
                }
            }
            return true;
        }

        /** Both parts of a set are lesser numbers than it is, so they are known already. */
        private int bestPart(int set, int parting) {
            int least = NONE;
            for (int i = 0; i < parting; i++) {
                int yes = set & yeses[i];
                int no = set & ~yeses[i];
                if (yes != 0 && no != 0 && enough[yes] != NONE && enough[no] != NONE) {
                    int most = 1 + Math.max(enough[yes], enough[no]);
                    if (least == NONE || most < least) {
                        least = most;
                    }
                }
            }
            return least;
        }
    }

    /**
     * What is known by SIGNS. A look is what of some SIGNS shows in a WORLD, as their bits; there are
     * 64 looks at most, so that a set of looks is a long.
     */
    private static final class Minds {

        static int view(Inn inn, int guest, int world, int left) {
            return withLooks(inn, inn.sees[guest], left, 1L << (inn.shown[world] & inn.sees[guest]));
        }

        /** The looks of some SIGNS in those of some WORLDS in which a GUEST is the ONE. */
        private static long looks(Inn inn, int signs, int worlds, int guest) {
            long found = 0;
            for (int weather = 0; weather < WEATHERS; weather++) {
                int world = guest * WEATHERS + weather;
                if ((worlds >>> world & 1) == 1) {
                    found |= 1L << (inn.shown[world] & signs);
                }
            }
            return found;
        }

        private static int withLooks(Inn inn, int signs, int worlds, long looks) {
            int found = 0;
            for (int world = 0; world < WORLDS; world++) {
                if ((worlds >>> world & 1) == 1 && (looks >>> (inn.shown[world] & signs) & 1) == 1) {
                    found |= 1 << world;
                }
            }
            return found;
        }

        /** The looks behind which more than one GUEST can be the ONE. */
        private static long doubtful(Inn inn, int signs, int worlds) {
            long once = 0;
            long twice = 0;
            for (int guest = 0; guest < inn.guests; guest++) {
                long his = looks(inn, signs, worlds, guest);
                twice |= once & his;
                once |= his;
            }
            return twice;
        }

        /** The WORLDS, of some, in which a GUEST knows who is the ONE. */
        static int knowing(Inn inn, int guest, int worlds) {
            int signs = inn.sees[guest];
            return withLooks(inn, signs, worlds, ~doubtful(inn, signs, worlds));
        }

        static int tellingSigns(Inn inn, int left) {
            int best = NONE;
            for (int set = 0; set < 1 << inn.signs; set++) {
                boolean fewer = best == NONE || Integer.bitCount(set) < Integer.bitCount(best);
                if (fewer && doubtful(inn, set, left) == 0) {
                    best = set;
                }
            }
            return best;
        }

        /** The round in which somebody first knows, or who does then; each round takes a WORLD at least. */
        static int sayingRounds(Inn inn, int world, int left, boolean who) {
            int worlds = left;
            for (int round = 1; round <= WORLDS; round++) {
                int knowers = 0;
                int silent = worlds;
                for (int guest = 0; guest < inn.guests; guest++) {
                    int knowing = knowing(inn, guest, worlds);
                    knowers |= (knowing >>> world & 1) << guest;
                    silent &= ~knowing;
                }
                if (knowers != 0) {
                    return who ? knowers : round;
                }
                if (silent == worlds) {
                    return NONE;
                }
                worlds = silent;
            }
            return NONE;
        }

        /** The WORLDS that VIEWS lead to; each turn but the last adds one at least. */
        static int reached(Inn inn, int world, int left) {
            int found = 1 << world;
            for (int turn = 0; turn < WORLDS; turn++) {
                int before = found;
                for (int guest = 0; guest < inn.guests; guest++) {
                    found |= seenFrom(inn, inn.sees[guest], left, found);
                }
                if (found == before) {
                    break;
                }
            }
            return found;
        }

        /** The WORLDS LEFT that look, by some SIGNS, as one of some WORLDS does. */
        private static int seenFrom(Inn inn, int signs, int left, int worlds) {
            long looks = 0;
            for (int guest = 0; guest < inn.guests; guest++) {
                looks |= looks(inn, signs, worlds, guest);
            }
            return withLooks(inn, signs, left, looks);
        }

        static int drawnYears(Inn inn, int seed, int nights, int what) {
            int together = 0;
            for (int guest = 0; guest < inn.guests; guest++) {
                together += inn.stays[guest];
            }
            long drawn = seed;
            int sum = 0;
            for (int night = 0; night < nights; night++) {
                drawn = next(drawn);
                int one = drawnGuest(inn, below(drawn, together));
                drawn = next(drawn);
                sum += ofNight(inn, one, below(drawn, WEATHERS), what);
            }
            return sum;
        }

        private static long next(long drawn) {
            return (drawn * 1103515245L + 12345L) % 2147483648L;
        }

        private static int below(long drawn, int bound) {
            return bound <= 0 ? 0 : (int) (drawn / 65536 % bound);
        }

        private static int drawnGuest(Inn inn, int drawn) {
            int rest = drawn;
            for (int guest = 0; guest < inn.guests; guest++) {
                if (rest < inn.stays[guest]) {
                    return guest;
                }
                rest -= inn.stays[guest];
            }
            return 0;
        }

        private static int ofNight(Inn inn, int one, int weather, int what) {
            int look = inn.shown[one * WEATHERS + weather];
            if (what == 2) {
                return Integer.bitCount(look);
            }
            int signs = what == 0 ? (1 << inn.signs) - 1 : inn.sees[one];
            return (doubtful(inn, signs, inn.all()) >>> (look & signs) & 1) == 0 ? 1 : 0;
        }
    }

    /** How likely it is whom, by how long they stay; 99 * 10^8 for each of 32 WORLDS, in millionths, fits a long. */
    private static final class Chances {
        final int[] stayIn = new int[ROOMS + 1];
        final int[] order = new int[GUESTS];

        private static long weight(Inn inn, Book book, int world) {
            long product = inn.stays[world / WEATHERS];
            for (int i = 0; i < book.heard; i++) {
                int sign = book.heardSign[i];
                boolean so = (inn.shown[world] >>> sign & 1) == 1 == book.heardShown[i];
                product *= so ? TEN - inn.errs[sign] : inn.errs[sign];
            }
            return product;
        }

        private static long together(Inn inn, Book book, int worlds) {
            long sum = 0;
            for (int world = 0; world < inn.guests * WEATHERS; world++) {
                if ((book.left >>> world & worlds >>> world & 1) == 1) {
                    sum += weight(inn, book, world);
                }
            }
            return sum;
        }

        static int mostLikely(Inn inn, Book book) {
            long most = 0;
            int found = NONE;
            for (int guest = 0; guest < inn.guests; guest++) {
                long his = together(inn, book, inn.worldsOf(guest));
                if (his > most) {
                    most = his;
                    found = guest;
                }
            }
            return found;
        }

        static int share(Inn inn, Book book, int guest) {
            long all = together(inn, book, inn.all());
            return all == 0 ? NONE : (int) (together(inn, book, inn.worldsOf(guest)) * MILLION / all);
        }

        /** ERRORS of a SIGN: it seems not to show though he is the ONE (missed), or to show though he is not. */
        static int wrongly(Inn inn, int left, int guest, int sign, boolean missed) {
            int worlds = left & (missed ? inn.worldsOf(guest) : ~inn.worldsOf(guest));
            long wrong = 0;
            long all = 0;
            for (int world = 0; world < inn.guests * WEATHERS; world++) {
                if ((worlds >>> world & 1) == 1) {
                    boolean shows = (inn.shown[world] >>> sign & 1) == 1;
                    int stays = inn.stays[world / WEATHERS];
                    wrong += stays * (shows == missed ? inn.errs[sign] : TEN - inn.errs[sign]);
                    all += stays * TEN;
                }
            }
            return all == 0 ? NONE : (int) (wrong * MILLION / all);
        }

        /** HUNT, with which rooms are looked into in what order. */
        int search(Inn inn, int who, int what) {
            if (who == 0) {
                return NONE;
            }
            int together = weighRooms(inn, who);
            int rooms = 0;
            int steps = 0;
            for (int n = 0; n < GUESTS; n++) {
                int room = heaviest();
                if (stayIn[room] == 0) {
                    break;
                }
                order[n] = room;
                rooms++;
                steps += rooms * stayIn[room];
                stayIn[room] = 0;
            }
            if (what == 0) {
                return together == 0 ? NONE : steps * THOUSAND / together;
            }
            if (what == 1) {
                return rooms;
            }
            return what - 2 >= 0 && what - 2 < rooms ? order[what - 2] : NONE;
        }

        private int weighRooms(Inn inn, int who) {
            for (int room = 0; room <= ROOMS; room++) {
                stayIn[room] = 0;
            }
            int together = 0;
            for (int guest = 0; guest < inn.guests; guest++) {
                if ((who >>> guest & 1) == 1) {
                    stayIn[inn.rooms[guest]] += inn.stays[guest];
                    together += inn.stays[guest];
                }
            }
            return together;
        }

        private int heaviest() {
            int best = 0;
            for (int room = 1; room <= ROOMS; room++) {
                if (stayIn[room] > stayIn[best]) {
                    best = room;
                }
            }
            return best;
        }
    }

    /** Bills, beds, and who stays awake. */
    private static final class Landlord {
        final int[] bedRoom = new int[GUESTS];
        /** By number of a room, the GUESTS that are bedded there. */
        final int[] inRoom = new int[GUESTS];
        final int[] near = new int[GUESTS];

        static int payment(Inn inn, int pennies, int guest) {
            int together = 0;
            for (int other = 0; other < inn.guests; other++) {
                together += inn.shares[other];
            }
            if (together == 0) {
                return 0;
            }
            int rest = pennies * inn.shares[guest] % together;
            int over = pennies;
            int before = 0;
            for (int other = 0; other < inn.guests; other++) {
                int due = pennies * inn.shares[other];
                over -= due / together;
                if (due % together > rest || due % together == rest && other < guest) {
                    before++;
                }
            }
            return pennies * inn.shares[guest] / together + (before < over ? 1 : 0);
        }

        /** Beds all in the fewest rooms, the first way of all, and answers how many rooms. */
        int bedAll(Inn inn) {
            for (int rooms = 0; rooms < GUESTS; rooms++) {
                if (bedFrom(this, inn, 0, 0, rooms)) {
                    return rooms;
                }
            }
            bedFrom(this, inn, 0, 0, GUESTS);
            return GUESTS;
        }

        private static boolean bedFrom(Landlord rows, Inn inn, int guest, int used, int rooms) {
            if (guest >= inn.guests) {
                return true;
            }
            for (int room = 0; room <= used && room < rooms; room++) {
                int others = room == used ? 0 : rows.inRoom[room];
                if (Integer.bitCount(others) < BED_ROOM && (others & inn.shuns[guest]) == 0) {
                    rows.inRoom[room] = others | 1 << guest;
                    rows.bedRoom[guest] = room;
                    if (bedFrom(rows, inn, guest + 1, room == used ? used + 1 : used, rooms)) {
                        return true;
                    }
                    rows.inRoom[room] = others;
                }
            }
            return false;
        }

        int awake(Inn inn, int many, int far) {
            for (int guest = 0; guest < inn.guests; guest++) {
                near[guest] = neighbours(inn, guest, far);
            }
            int best = NONE;
            for (int set = 0; set < 1 << inn.guests; set++) {
                boolean fewer = best == NONE || Integer.bitCount(set) < Integer.bitCount(best);
                if (fewer && watchesAll(inn, set, many)) {
                    best = set;
                }
            }
            return best;
        }

        private static int neighbours(Inn inn, int guest, int far) {
            int found = 0;
            for (int other = 0; other < inn.guests; other++) {
                if (other != guest && Math.abs(inn.rooms[other] - inn.rooms[guest]) <= far) {
                    found |= 1 << other;
                }
            }
            return found;
        }

        private boolean watchesAll(Inn inn, int set, int many) {
            for (int guest = 0; guest < inn.guests; guest++) {
                if (Integer.bitCount(set & near[guest]) < many) {
                    return false;
                }
            }
            return true;
        }
    }
}

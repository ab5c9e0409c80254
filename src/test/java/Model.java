import java.util.ArrayDeque;
import java.util.ArrayList;
import java.util.Arrays;
import java.util.Collections;
import java.util.HashMap;
import java.util.HashSet;
import java.util.LinkedHashMap;
import java.util.List;
import java.util.Map;
import java.util.Set;
import java.util.TreeSet;
import java.util.function.Function;
import java.util.function.IntUnaryOperator;
import java.util.function.Predicate;

/**
 * The document once more, in the slowest and plainest way and with the whole Java library, for
 * comparison with the class. It shares no code and no way of holding things with it.
 */
final class Model {

    record World(int one, int weather) { }

    record Guest(String name, String kind, int room, int stays) { }

    record Line(String word, int subject, Predicate<World> so) { }

    record Heard(int sign, boolean shown) { }

    record Token(String text, int place, char type) { }

    static final class Fault extends Exception {
        private static final long serialVersionUID = 1L;
        final int value;

        Fault(int kind, int place) {
            super(null, null, false, false);
            value = kind + 16 * place;
        }
    }

    static final class House {
        final List<Guest> guests = new ArrayList<>();
        final List<String> signs = new ArrayList<>();
        final List<Integer> errs = new ArrayList<>();
        final List<Predicate<World>> when = new ArrayList<>();
        final Map<Integer, Set<Integer>> sees = new HashMap<>();
        final Set<Set<Integer>> shun = new HashSet<>();
        final Map<World, Set<Integer>> showing = new HashMap<>();
        IntUnaryOperator law;

        int guestNamed(String name) {
            for (int i = 0; i < guests.size(); i++) {
                if (guests.get(i).name.equals(name)) {
                    return i;
                }
            }
            return -1;
        }

        Set<World> worlds() {
            Set<World> all = new HashSet<>();
            for (int one = 0; one < guests.size(); one++) {
                for (int weather = 0; weather < 4; weather++) {
                    all.add(new World(one, weather));
                }
            }
            return all;
        }
    }

    record State(Set<World> left, List<Set<Integer>> nights, List<Heard> heard) { }

    static final List<String> KINDS = List.of("plain", "honest", "liar", "mad");
    static final List<String> WEATHERS = List.of("clear", "snow", "fog", "wind");
    static final Set<String> RESERVED = new HashSet<>(Arrays.asList(
            "guest", "room", "stays", "sign", "errs", "when", "sees", "shun", "bill", "says", "shows",
            "hides", "weather", "night", "plain", "honest", "liar", "mad", "clear", "snow", "fog", "wind",
            "odd", "low", "alone", "old", "not", "and", "or"));

    final StringBuilder tape = new StringBuilder();
    House house = new House();
    List<Line> lines = new ArrayList<>();
    Set<World> left = new HashSet<>();
    List<Set<Integer>> nights = new ArrayList<>();
    List<Heard> heard = new ArrayList<>();
    final ArrayDeque<State> undo = new ArrayDeque<>();
    final Map<Integer, State> marks = new HashMap<>();

    // ---- the texts

    int feed(long a, long b, long c) {
        for (long word : new long[] {a, b, c}) {
            for (int i = 7; i >= 0; i--) {
                int sign = (int) (word >> 8 * i) & 0xff;
                if ((sign == 10 || sign > 31 && sign < 127) && tape.length() < 1000) {
                    tape.append((char) sign);
                }
            }
        }
        return tape.length();
    }

    static List<Token> tokens(String text) {
        List<Token> found = new ArrayList<>();
        int at = 0;
        while (at < text.length()) {
            char c = text.charAt(at);
            int to = at + 1;
            if (c == ' ' || c == '\n') {
                at++;
                continue;
            }
            if (c >= 'a' && c <= 'z') {
                while (to < text.length() && text.charAt(to) >= 'a' && text.charAt(to) <= 'z') {
                    to++;
                }
                found.add(new Token(text.substring(at, to), at, to - at <= 8 ? 'w' : '!'));
            } else if (c >= '0' && c <= '9') {
                while (to < text.length() && text.charAt(to) >= '0' && text.charAt(to) <= '9') {
                    to++;
                }
                found.add(new Token(text.substring(at, to), at, to - at <= 4 ? 'n' : '!'));
            } else {
                found.add(new Token(text.substring(at, to), at, "()<=+-*;".indexOf(c) >= 0 ? 's' : '!'));
            }
            at = to;
        }
        found.add(new Token("", text.length(), '$'));
        return found;
    }

    /** A cursor over tokens with the grammar of both texts. */
    static final class Parser {
        final List<Token> tokens;
        final House house;
        int at;

        Parser(String text, House house) {
            tokens = tokens(text);
            this.house = house;
        }

        Token peek() {
            return tokens.get(at);
        }

        Fault fault(int kind) {
            return new Fault(kind, peek().place);
        }

        boolean is(String text) {
            return (peek().type == 'w' || peek().type == 's') && peek().text.equals(text);
        }

        void expect(String text) throws Fault {
            if (!is(text)) {
                throw fault(1);
            }
            at++;
        }

        boolean atName() {
            return peek().type == 'w' && !RESERVED.contains(peek().text);
        }

        int guest() throws Fault {
            if (!atName()) {
                throw fault(1);
            }
            int guest = house.guestNamed(peek().text);
            if (guest < 0) {
                throw fault(2);
            }
            return guest;
        }

        int sign() throws Fault {
            if (!atName()) {
                throw fault(1);
            }
            int sign = house.signs.indexOf(peek().text);
            if (sign < 0) {
                throw fault(2);
            }
            return sign;
        }

        String fresh() throws Fault {
            if (!atName()) {
                throw fault(1);
            }
            String name = peek().text;
            if (house.guestNamed(name) >= 0 || house.signs.contains(name)) {
                throw fault(3);
            }
            at++;
            return name;
        }

        int number(String word, int least, int most) throws Fault {
            expect(word);
            if (peek().type != 'n') {
                throw fault(1);
            }
            int number = Integer.parseInt(peek().text);
            if (number < least || number > most) {
                throw fault(4);
            }
            at++;
            return number;
        }

        Predicate<World> formula(int depth) throws Fault {
            List<Predicate<World>> terms = new ArrayList<>();
            do {
                if (!terms.isEmpty()) {
                    at++;
                }
                List<Predicate<World>> items = new ArrayList<>();
                items.add(item(depth));
                while (is("and")) {
                    at++;
                    items.add(item(depth));
                }
                terms.add(world -> items.stream().allMatch(item -> item.test(world)));
            } while (is("or"));
            return world -> terms.stream().anyMatch(term -> term.test(world));
        }

        Predicate<World> item(int depth) throws Fault {
            List<String> facts = List.of("odd", "low", "alone", "old");
            String text = peek().text;
            boolean fact = peek().type == 'w' && (WEATHERS.contains(text) || facts.contains(text));
            if (!is("not") && !is("(") && !fact && !atName()) {
                throw fault(1);
            }
            int guest = house.guestNamed(text);
            int sign = house.signs.indexOf(text);
            if (atName() && guest < 0 && sign < 0) {
                throw fault(2);
            }
            if (depth == 5) {
                throw fault(5);
            }
            at++;
            if (text.equals("not")) {
                return item(depth + 1).negate();
            }
            if (text.equals("(")) {
                Predicate<World> inner = formula(depth + 1);
                expect(")");
                return inner;
            }
            if (!fact) {
                return guest >= 0 ? world -> world.one == guest : world -> house.when.get(sign).test(world);
            }
            return world -> factIsSo(text, world);
        }

        boolean factIsSo(String text, World world) {
            Guest one = house.guests.get(world.one);
            switch (text) {
                case "odd":
                    return one.room % 2 != 0;
                case "low":
                    return one.room < 7;
                case "alone":
                    return house.guests.stream().filter(other -> other.room == one.room).count() == 1;
                case "old":
                    return one.stays > 9;
                default:
                    return WEATHERS.get(world.weather).equals(text);
            }
        }

        IntUnaryOperator e(int depth) throws Fault {
            IntUnaryOperator found = test(depth);
            while (is("and") || is("or")) {
                boolean and = is("and");
                at++;
                IntUnaryOperator one = found;
                IntUnaryOperator two = test(depth);
                found = and ? g -> one.applyAsInt(g) != 0 && two.applyAsInt(g) != 0 ? 1 : 0
                        : g -> one.applyAsInt(g) != 0 || two.applyAsInt(g) != 0 ? 1 : 0;
            }
            return found;
        }

        IntUnaryOperator test(int depth) throws Fault {
            IntUnaryOperator one = sum(depth);
            if (!is("<") && !is("=")) {
                return one;
            }
            boolean less = is("<");
            at++;
            IntUnaryOperator two = sum(depth);
            return less ? g -> one.applyAsInt(g) < two.applyAsInt(g) ? 1 : 0
                    : g -> one.applyAsInt(g) == two.applyAsInt(g) ? 1 : 0;
        }

        IntUnaryOperator sum(int depth) throws Fault {
            IntUnaryOperator found = product(depth);
            while (is("+") || is("-")) {
                int by = is("+") ? 1 : -1;
                at++;
                IntUnaryOperator one = found;
                IntUnaryOperator two = product(depth);
                found = g -> one.applyAsInt(g) + by * two.applyAsInt(g);
            }
            return found;
        }

        IntUnaryOperator product(int depth) throws Fault {
            IntUnaryOperator found = part(depth);
            while (is("*")) {
                at++;
                IntUnaryOperator one = found;
                IntUnaryOperator two = part(depth);
                found = g -> one.applyAsInt(g) * two.applyAsInt(g);
            }
            return found;
        }

        IntUnaryOperator part(int depth) throws Fault {
            boolean number = peek().type == 'n';
            String text = peek().text;
            boolean fact = is("door") || is("nights") || is("many");
            if (!number && !fact && !is("not") && !is("(")) {
                throw fault(1);
            }
            if (depth == 5) {
                throw fault(5);
            }
            at++;
            if (number) {
                return g -> Integer.parseInt(text);
            }
            switch (text) {
                case "door":
                    return g -> house.guests.get(g).room;
                case "nights":
                    return g -> house.guests.get(g).stays;
                case "many":
                    return g -> house.guests.size();
                case "not":
                    IntUnaryOperator denied = part(depth + 1);
                    return g -> denied.applyAsInt(g) == 0 ? 1 : 0;
                default:
                    IntUnaryOperator inner = e(depth + 1);
                    expect(")");
                    return inner;
            }
        }

        void innLine() throws Fault {
            if (is("guest")) {
                if (house.guests.size() == 8) {
                    throw fault(5);
                }
                at++;
                String name = fresh();
                if (peek().type != 'w' || !KINDS.contains(peek().text)) {
                    throw fault(1);
                }
                String kind = peek().text;
                at++;
                int room = number("room", 1, 12);
                house.guests.add(new Guest(name, kind, room, number("stays", 1, 99)));
            } else if (is("sign")) {
                if (house.signs.size() == 6) {
                    throw fault(5);
                }
                at++;
                String name = fresh();
                house.errs.add(number("errs", 0, 10));
                expect("when");
                house.when.add(formula(0));
                house.signs.add(name);
            } else if (is("sees")) {
                at++;
                int guest = guest();
                if (house.sees.containsKey(guest)) {
                    throw fault(3);
                }
                at++;
                Set<Integer> seen = new TreeSet<>();
                do {
                    if (!seen.add(sign())) {
                        throw fault(3);
                    }
                    at++;
                } while (!is(";"));
                house.sees.put(guest, seen);
            } else if (is("shun")) {
                at++;
                int one = guest();
                at++;
                int two = guest();
                if (one == two || !house.shun.add(Set.of(one, two))) {
                    throw fault(3);
                }
                at++;
            } else if (is("bill")) {
                if (house.law != null) {
                    throw fault(3);
                }
                at++;
                house.law = e(0);
            } else {
                throw fault(1);
            }
            expect(";");
        }

        Line morningLine(int before) throws Fault {
            String word = peek().text;
            if (peek().type != 'w' || !List.of("says", "shows", "hides", "weather", "night").contains(word)) {
                throw fault(1);
            }
            if (before == 24) {
                throw fault(5);
            }
            at++;
            int subject = 0;
            Predicate<World> so = null;
            switch (word) {
                case "says":
                    subject = guest();
                    at++;
                    so = formula(0);
                    break;
                case "weather":
                    subject = WEATHERS.indexOf(peek().text);
                    if (subject < 0) {
                        throw fault(1);
                    }
                    at++;
                    break;
                case "night":
                    break;
                default:
                    subject = sign();
                    at++;
                    break;
            }
            expect(";");
            return new Line(word, subject, so);
        }
    }

    int inn() {
        House told = new House();
        Parser parser = new Parser(tape.toString(), told);
        tape.setLength(0);
        try {
            while (parser.peek().type != '$') {
                parser.innLine();
            }
        } catch (Fault fault) {
            return fault.value;
        }
        house = told;
        lines = new ArrayList<>();
        left = house.worlds();
        nights = new ArrayList<>();
        heard = new ArrayList<>();
        undo.clear();
        marks.clear();
        return 0;
    }

    int morning() {
        List<Line> told = new ArrayList<>();
        Parser parser = new Parser(tape.toString(), house);
        tape.setLength(0);
        try {
            while (parser.peek().type != '$') {
                told.add(parser.morningLine(told.size()));
            }
        } catch (Fault fault) {
            return fault.value;
        }
        lines = told;
        return 0;
    }

    // ---- what is told, and what is done by hand

    boolean isGuest(int guest) {
        return guest >= 0 && guest < house.guests.size();
    }

    boolean isSign(int sign) {
        return sign >= 0 && sign < house.signs.size();
    }

    static int bits(Iterable<Integer> set) {
        int bits = 0;
        for (int i : set) {
            bits |= 1 << i;
        }
        return bits;
    }

    int guest(int guest, int what) {
        if (!isGuest(guest)) {
            return -1;
        }
        Guest told = house.guests.get(guest);
        Set<Integer> shunned = new HashSet<>();
        house.shun.stream().filter(pair -> pair.contains(guest)).forEach(shunned::addAll);
        shunned.remove(guest);
        int[] all = {KINDS.indexOf(told.kind), told.room, told.stays, bits(seen(guest)), bits(shunned)};
        return what >= 0 && what < all.length ? all[what] : -1;
    }

    Set<Integer> seen(int guest) {
        return house.sees.getOrDefault(guest, Set.of());
    }

    Set<Integer> showing(World world) {
        return house.showing.computeIfAbsent(world, at -> {
            Set<Integer> found = new TreeSet<>();
            for (int sign = 0; sign < house.signs.size(); sign++) {
                if (house.when.get(sign).test(at)) {
                    found.add(sign);
                }
            }
            return found;
        });
    }

    int shows(int world) {
        return world >= 0 && world < house.guests.size() * 4 ? bits(showing(new World(world / 4, world % 4))) : -1;
    }

    int left() {
        List<Integer> numbers = new ArrayList<>();
        left.forEach(world -> numbers.add(world.one * 4 + world.weather));
        return bits(numbers);
    }

    boolean couldSay(int guest, World world, boolean true_) {
        boolean himself = world.one == guest;
        switch (house.guests.get(guest).kind) {
            case "plain":
                return true_ != himself;
            case "honest":
                return true_;
            case "liar":
                return true_ == himself;
            default:
                return true;
        }
    }

    void keepUndo() {
        undo.addLast(new State(left, List.copyOf(nights), List.of()));
        if (undo.size() > 16) {
            undo.removeFirst();
        }
    }

    static Set<World> only(Set<World> worlds, Predicate<World> so) {
        Set<World> found = new HashSet<>(worlds);
        found.removeIf(so.negate());
        return found;
    }

    int narrow(Predicate<World> so) {
        Set<World> found = only(left, so);
        if (found.isEmpty()) {
            return -1;
        }
        keepUndo();
        left = found;
        return found.size();
    }

    int answer(int asked, int about, boolean yes) {
        if (!isGuest(asked) || !isGuest(about)) {
            return -1;
        }
        return narrow(world -> couldSay(asked, world, (world.one == about) == yes));
    }

    int sign(int sign, boolean shown) {
        return isSign(sign) ? narrow(world -> showing(world).contains(sign) == shown) : -1;
    }

    int weather(int weather) {
        return narrow(world -> world.weather == weather);
    }

    static Set<Integer> ones(Set<World> worlds) {
        Set<Integer> found = new TreeSet<>();
        worlds.forEach(world -> found.add(world.one));
        return found;
    }

    int night() {
        if (house.guests.isEmpty() || nights.size() == 10) {
            return -1;
        }
        keepUndo();
        Set<Integer> kept = ones(left);
        nights.add(kept);
        left = house.worlds();
        return bits(kept);
    }

    boolean undo() {
        if (undo.isEmpty()) {
            return false;
        }
        State state = undo.removeLast();
        left = state.left;
        nights = new ArrayList<>(state.nights);
        return true;
    }

    // ---- told mornings

    /** The first line that can't be, behind it the WORLDS LEFT at last. */
    Object[] judge(List<Line> told) {
        Set<World> now = house.worlds();
        int first = -1;
        for (int i = 0; i < told.size(); i++) {
            Line line = told.get(i);
            if (line.word.equals("night")) {
                now = house.worlds();
                continue;
            }
            Set<World> narrowed = only(now, world -> goes(line, world));
            if (!narrowed.isEmpty()) {
                now = narrowed;
            } else if (first < 0) {
                first = i;
            }
        }
        return new Object[] {first, now};
    }

    boolean goes(Line line, World world) {
        switch (line.word) {
            case "says":
                return couldSay(line.subject, world, line.so.test(world));
            case "weather":
                return world.weather == line.subject;
            default:
                return showing(world).contains(line.subject) == line.word.equals("shows");
        }
    }

    @SuppressWarnings("unchecked")
    int judged(int what) {
        Object[] found = judge(lines);
        Set<World> last = (Set<World>) found[1];
        switch (what) {
            case 0:
                return (Integer) found[0];
            case 1:
                return last.size();
            case 2:
                return ones(last).size() == 1 ? ones(last).iterator().next() : -1;
            default:
                return -2;
        }
    }

    int spare() {
        List<Integer> found = new ArrayList<>();
        for (int i = 0; i < lines.size(); i++) {
            List<Line> without = new ArrayList<>(lines);
            without.remove(i);
            if (judge(without)[1].equals(judge(lines)[1])) {
                found.add(i);
            }
        }
        return bits(found);
    }

    // ---- who it can be

    int who() {
        return bits(ones(left));
    }

    Set<World> behind(Set<World> worlds, int asked, int about, boolean yes) {
        return only(worlds, world -> couldSay(asked, world, (world.one == about) == yes));
    }

    int ask() {
        int least = ones(left).size();
        int found = -1;
        for (int asked = 0; asked < house.guests.size(); asked++) {
            for (int about = 0; about < house.guests.size(); about++) {
                int most = Math.max(ones(behind(left, asked, about, true)).size(),
                        ones(behind(left, asked, about, false)).size());
                if (most < least) {
                    least = most;
                    found = asked * 8 + about;
                }
            }
        }
        return found;
    }

    int fewest() {
        if (left.isEmpty()) {
            return -1;
        }
        int found = deep(left, new HashMap<>());
        return found > 100 ? -1 : found;
    }

    int deep(Set<World> worlds, Map<Set<Integer>, Integer> known) {
        Set<Integer> who = ones(worlds);
        if (who.size() == 1) {
            return 0;
        }
        if (known.containsKey(who)) {
            return known.get(who);
        }
        int least = 1000;
        for (int asked = 0; asked < house.guests.size(); asked++) {
            for (int about = 0; about < house.guests.size(); about++) {
                Set<World> yes = behind(worlds, asked, about, true);
                Set<World> no = behind(worlds, asked, about, false);
                if (yes.size() < worlds.size() && no.size() < worlds.size()) {
                    least = Math.min(least, 1 + Math.max(deep(yes, known), deep(no, known)));
                }
            }
        }
        known.put(who, least);
        return least;
    }

    static List<Set<Integer>> setsBySize(int of) {
        List<Set<Integer>> sets = new ArrayList<>();
        for (int bits = 0; bits < 1 << of; bits++) {
            Set<Integer> set = new TreeSet<>();
            for (int i = 0; i < of; i++) {
                if ((bits >> i) % 2 == 1) {
                    set.add(i);
                }
            }
            sets.add(set);
        }
        sets.sort((x, y) -> x.size() != y.size() ? x.size() - y.size() : bits(x) - bits(y));
        return sets;
    }

    Set<Integer> look(World world, Set<Integer> signs) {
        Set<Integer> found = new TreeSet<>(showing(world));
        found.retainAll(signs);
        return found;
    }

    int tell() {
        for (Set<Integer> signs : setsBySize(house.signs.size())) {
            Map<Set<Integer>, Set<Integer>> by = new HashMap<>();
            left.forEach(world -> by.computeIfAbsent(look(world, signs), x -> new HashSet<>()).add(world.one));
            if (by.values().stream().allMatch(ones -> ones.size() == 1)) {
                return bits(signs);
            }
        }
        return -1;
    }

    Set<World> view(int guest, World world, Set<World> worlds) {
        return only(worlds, other -> look(other, seen(guest)).equals(look(world, seen(guest))));
    }

    World leftWorld(int number) {
        World world = new World(Math.floorDiv(number, 4), Math.floorMod(number, 4));
        return left.contains(world) ? world : null;
    }

    int knows(int guest, int world) {
        World at = leftWorld(world);
        return at == null || !isGuest(guest) ? -1 : bits(ones(view(guest, at, left)));
    }

    boolean isSure(int guest, World world, Set<World> worlds) {
        return ones(view(guest, world, worlds)).size() == 1;
    }

    int sure(int guest, int other, int world) {
        World at = leftWorld(world);
        if (at == null || !isGuest(guest) || !isGuest(other) || guest == other) {
            return -1;
        }
        return view(guest, at, left).stream().allMatch(there -> isSure(other, there, left)) ? 1 : 0;
    }

    Set<Integer> knowers(World world, Set<World> worlds) {
        Set<Integer> found = new TreeSet<>();
        for (int guest = 0; guest < house.guests.size(); guest++) {
            if (isSure(guest, world, worlds)) {
                found.add(guest);
            }
        }
        return found;
    }

    int rounds(int world, int what) {
        World at = leftWorld(world);
        if (at == null || what != 0 && what != 1) {
            return -1;
        }
        Set<World> worlds = left;
        for (int round = 1;; round++) {
            Set<Integer> now = knowers(at, worlds);
            if (!now.isEmpty()) {
                return what == 0 ? round : bits(now);
            }
            Set<World> before = worlds;
            Set<World> after = only(before, there -> knowers(there, before).equals(now));
            if (after.equals(before)) {
                return -1;
            }
            worlds = after;
        }
    }

    int common(int world) {
        World at = leftWorld(world);
        if (at == null) {
            return -1;
        }
        Set<World> found = new HashSet<>();
        ArrayDeque<World> open = new ArrayDeque<>(List.of(at));
        while (!open.isEmpty()) {
            World next = open.remove();
            if (found.add(next)) {
                for (int guest = 0; guest < house.guests.size(); guest++) {
                    open.addAll(view(guest, next, left));
                }
            }
        }
        return bits(ones(found));
    }

    // ---- chances

    boolean hear(int sign, boolean shown) {
        if (!isSign(sign) || heard.size() == 8) {
            return false;
        }
        heard.add(new Heard(sign, shown));
        return true;
    }

    java.math.BigInteger oddsOf(int guest) {
        java.math.BigInteger sum = java.math.BigInteger.ZERO;
        for (World world : left) {
            if (world.one == guest) {
                java.math.BigInteger odds = java.math.BigInteger.valueOf(house.guests.get(guest).stays);
                for (Heard one : heard) {
                    boolean so = showing(world).contains(one.sign) == one.shown;
                    int errs = house.errs.get(one.sign);
                    odds = odds.multiply(java.math.BigInteger.valueOf(so ? 10 - errs : errs));
                }
                sum = sum.add(odds);
            }
        }
        return sum;
    }

    int likely() {
        int found = -1;
        for (int guest = house.guests.size() - 1; guest >= 0; guest--) {
            if (oddsOf(guest).signum() > 0 && (found < 0 || oddsOf(guest).compareTo(oddsOf(found)) >= 0)) {
                found = guest;
            }
        }
        return found;
    }

    int odds(int guest) {
        java.math.BigInteger all = java.math.BigInteger.ZERO;
        for (int other = 0; other < house.guests.size(); other++) {
            all = all.add(oddsOf(other));
        }
        if (!isGuest(guest) || all.signum() == 0) {
            return -1;
        }
        return oddsOf(guest).multiply(java.math.BigInteger.valueOf(1000000)).divide(all).intValueExact();
    }

    int errors(int guest, int sign, int what) {
        if (!isGuest(guest) || !isSign(sign) || what != 0 && what != 1) {
            return -1;
        }
        long wrong = 0;
        long all = 0;
        for (World world : left) {
            if ((world.one == guest) == (what == 1)) {
                int stays = house.guests.get(world.one).stays;
                boolean shows = showing(world).contains(sign);
                int seemsToShow = shows ? 10 - house.errs.get(sign) : house.errs.get(sign);
                wrong += (long) stays * (what == 0 ? seemsToShow : 10 - seemsToShow);
                all += 10L * stays;
            }
        }
        return all == 0 ? -1 : (int) (1000000 * wrong / all);
    }

    int hunt(int what) {
        if (left.isEmpty() || what < 0) {
            return -1;
        }
        Map<Integer, Integer> stays = new LinkedHashMap<>();
        ones(left).forEach(one -> stays.merge(house.guests.get(one).room, house.guests.get(one).stays, Integer::sum));
        List<Integer> rooms = new ArrayList<>(stays.keySet());
        Collections.sort(rooms);
        rooms.sort((x, y) -> stays.get(y) - stays.get(x));
        if (what == 1) {
            return rooms.size();
        }
        if (what > 1) {
            return what - 2 < rooms.size() ? rooms.get(what - 2) : -1;
        }
        int sum = 0;
        int all = 0;
        for (int i = 0; i < rooms.size(); i++) {
            sum += (i + 1) * stays.get(rooms.get(i));
            all += stays.get(rooms.get(i));
        }
        return 1000 * sum / all;
    }

    int same(int what) {
        List<Set<Integer>> all = new ArrayList<>(nights);
        all.add(ones(left));
        Set<Integer> found = new TreeSet<>(all.get(0));
        int first = found.isEmpty() ? 0 : -1;
        for (int i = 1; i < all.size(); i++) {
            found.retainAll(all.get(i));
            if (found.isEmpty() && first < 0) {
                first = i;
            }
        }
        return what == 0 ? bits(found) : what == 1 ? first : -2;
    }

    // ---- the house

    int bill(int pennies, int guest) {
        if (pennies < 0 || pennies > 9999 || !isGuest(guest)) {
            return -1;
        }
        int n = house.guests.size();
        int[] shares = new int[n];
        int all = 0;
        for (int i = 0; i < n; i++) {
            int share = house.law == null ? 1 : house.law.applyAsInt(i);
            shares[i] = share < 0 ? 0 : share > 99 ? 99 : share;
            all += shares[i];
        }
        if (all == 0) {
            return 0;
        }
        int[] pays = new int[n];
        int over = pennies;
        List<Integer> order = new ArrayList<>();
        for (int i = 0; i < n; i++) {
            pays[i] = pennies * shares[i] / all;
            over -= pays[i];
            order.add(i);
        }
        int together = all;
        Function<Integer, Integer> rest = i -> pennies * shares[i] % together;
        order.sort((x, y) -> rest.apply(y) - rest.apply(x));
        for (int i = 0; i < over; i++) {
            pays[order.get(i)]++;
        }
        return pays[guest];
    }

    int[] bestBeds;

    int beds(int guest) {
        if (guest != -1 && !isGuest(guest)) {
            return -2;
        }
        bestBeds = null;
        allBeds(new int[house.guests.size()], 0);
        return guest == -1 ? roomsOf(bestBeds) : bestBeds[guest];
    }

    static int roomsOf(int[] row) {
        return Arrays.stream(row).map(room -> room + 1).max().orElse(0);
    }

    /** Tries all rows, the least first. */
    void allBeds(int[] row, int at) {
        if (at == row.length) {
            if (bestBeds == null || roomsOf(row) < roomsOf(bestBeds)) {
                bestBeds = row.clone();
            }
            return;
        }
        int used = roomsOf(Arrays.copyOf(row, at));
        for (int room = 0; room <= used; room++) {
            int others = 0;
            boolean good = true;
            for (int i = 0; i < at; i++) {
                if (row[i] == room) {
                    others++;
                    good &= !house.shun.contains(Set.of(i, at));
                }
            }
            if (good && others < 3) {
                row[at] = room;
                allBeds(row, at + 1);
            }
        }
    }

    int watch(int many, int far) {
        if (many != 1 && many != 2 || far < 0 || far > 11) {
            return -1;
        }
        int n = house.guests.size();
        for (Set<Integer> awake : setsBySize(n)) {
            boolean good = true;
            for (int i = 0; i < n; i++) {
                int me = i;
                good &= awake.stream().filter(other -> other != me && Math.abs(
                        house.guests.get(other).room - house.guests.get(me).room) <= far).count() >= many;
            }
            if (good) {
                return bits(awake);
            }
        }
        return -1;
    }

    int years(int seed, int nights, int what) {
        if (seed < 0 || seed > 9999 || nights < 1 || nights > 100 || what < 0 || what > 2 || house.guests.isEmpty()) {
            return -1;
        }
        List<Integer> urn = new ArrayList<>();
        for (int i = 0; i < house.guests.size(); i++) {
            urn.addAll(Collections.nCopies(house.guests.get(i).stays, i));
        }
        Set<Integer> allSigns = new TreeSet<>();
        for (int i = 0; i < house.signs.size(); i++) {
            allSigns.add(i);
        }
        long g = seed;
        int[] found = new int[3];
        for (int night = 0; night < nights; night++) {
            g = (g * 1103515245L + 12345L) & 0x7fffffffL;
            int one = urn.get((int) ((g >> 16) % urn.size()));
            g = (g * 1103515245L + 12345L) & 0x7fffffffL;
            World world = new World(one, (int) ((g >> 16) % 4));
            Set<World> alike = only(house.worlds(), other -> look(other, allSigns).equals(look(world, allSigns)));
            found[0] += ones(alike).size() == 1 ? 1 : 0;
            found[1] += isSure(one, world, house.worlds()) ? 1 : 0;
            found[2] += showing(world).size();
        }
        return found[what];
    }

    boolean mark(int mark, boolean back) {
        if (mark < 0 || mark > 3) {
            return false;
        }
        if (!back) {
            marks.put(mark, new State(left, List.copyOf(nights), List.copyOf(heard)));
            return true;
        }
        State state = marks.get(mark);
        if (state == null) {
            return false;
        }
        left = state.left;
        nights = new ArrayList<>(state.nights);
        heard = new ArrayList<>(state.heard);
        undo.clear();
        return true;
    }

    int count(int what) {
        int[] all = {house.guests.size(), house.signs.size(), left.size(), nights.size(), lines.size(),
            heard.size(), undo.size(), tape.length()};
        return what >= 0 && what < all.length ? all[what] : -1;
    }
}

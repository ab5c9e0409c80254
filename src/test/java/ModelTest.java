import java.util.ArrayList;
import java.util.List;
import java.util.Random;

/** Runs of calls, made by a fixed seed, on the class and on the plain Model: all answers must agree. */
public final class ModelTest {
    private static final String[] NAMES = {"a", "bb", "ccc", "door", "many", "nights", "eightlet", "x", "y", "z", "q",
        "w", "r", "t", "u", "v"};
    private static final String[] KINDS = {"plain", "honest", "liar", "mad"};
    private static final String[] WEATHERS = {"clear", "snow", "fog", "wind"};
    private static final String[] FACTS = {"odd", "low", "alone", "old"};
    private static final String[] STRAY = {"guest", "room", "stays", "sign", "errs", "when", "sees", "shun", "bill",
        "says", "shows", "hides", "weather", "night", "plain", "mad", "snow", "odd", "not", "and", "or", "(", ")", "<",
        "=", "+", "-", "*", ";", "0", "1", "12", "13", "99", "100", "9999", "10000", "007", "ninechars", "A", "a1",
        "12ab", "", "a", "bb", "ccc", "door", "x", "new", "%"};

    private final Random random;
    private final List<String> guests = new ArrayList<>();
    private final List<String> signs = new ArrayList<>();

    private ModelTest(long seed) {
        random = new Random(seed);
    }

    private String any(String... of) {
        return of[random.nextInt(of.length)];
    }

    private String any(List<String> of) {
        return of.isEmpty() ? "x" : of.get(random.nextInt(of.size()));
    }

    private boolean one(int in) {
        return random.nextInt(in) == 0;
    }

    private void formula(List<String> text, int depth) {
        int items = 1 + (one(2) ? random.nextInt(3) : 0);
        for (int i = 0; i < items; i++) {
            if (i > 0) {
                text.add(any("and", "or"));
            }
            item(text, depth);
        }
    }

    private void item(List<String> text, int depth) {
        int kind = random.nextInt(depth < 4 ? 8 : one(30) ? 8 : 5);
        if (kind == 7) {
            text.add("(");
            formula(text, depth + 1);
            text.add(")");
        } else if (kind > 4) {
            text.add("not");
            item(text, depth + 1);
        } else if (kind == 0) {
            text.add(any(WEATHERS));
        } else if (kind == 1) {
            text.add(any(FACTS));
        } else if (kind == 2 && !signs.isEmpty()) {
            text.add(any(signs));
        } else {
            text.add(guests.isEmpty() ? any(FACTS) : any(guests));
        }
    }

    private void expression(List<String> text, int depth) {
        int tests = 1 + (one(3) ? 1 + random.nextInt(2) : 0);
        for (int i = 0; i < tests; i++) {
            if (i > 0) {
                text.add(any("and", "or"));
            }
            sum(text, depth);
            if (one(3)) {
                text.add(any("<", "="));
                sum(text, depth);
            }
        }
    }

    private void sum(List<String> text, int depth) {
        int parts = 1 + random.nextInt(4);
        for (int i = 0; i < parts; i++) {
            if (i > 0) {
                text.add(any("+", "-", "*", "*"));
            }
            part(text, depth);
        }
    }

    private void part(List<String> text, int depth) {
        int kind = random.nextInt(depth < 4 ? 10 : one(30) ? 10 : 7);
        if (kind == 9) {
            text.add("(");
            expression(text, depth + 1);
            text.add(")");
        } else if (kind > 6) {
            text.add("not");
            part(text, depth + 1);
        } else if (kind < 3) {
            text.add(any("door", "nights", "many"));
        } else {
            text.add(String.valueOf(one(3) ? random.nextInt(10000) : random.nextInt(10)));
        }
    }

    private List<String> inn() {
        guests.clear();
        signs.clear();
        List<String> names = new ArrayList<>(List.of(NAMES));
        java.util.Collections.shuffle(names, random);
        List<String> text = new ArrayList<>();
        int many = one(6) ? 8 : one(30) ? 9 : random.nextInt(8);
        int rooms = 1 + random.nextInt(12);
        int told = one(4) ? 6 : one(30) ? 7 : random.nextInt(6);
        for (int i = 0; i < many + told; i++) {
            String name = names.remove(0);
            boolean guest = guests.size() < many && (signs.size() >= told || !one(3));
            if (guest) {
                text.addAll(List.of("guest", name, any(KINDS), "room", "" + (1 + random.nextInt(rooms)),
                        "stays", "" + (1 + random.nextInt(one(2) ? 99 : 15)), ";"));
                guests.add(name);
            } else {
                text.addAll(List.of("sign", name, "errs", "" + random.nextInt(one(2) ? 11 : 4), "when"));
                formula(text, 0);
                text.add(";");
                signs.add(name);
            }
        }
        links(text);
        return text;
    }

    private void links(List<String> text) {
        for (String guest : guests) {
            if (!signs.isEmpty() && !one(4)) {
                List<String> all = new ArrayList<>(signs);
                java.util.Collections.shuffle(all, random);
                text.addAll(List.of("sees", guest));
                text.addAll(all.subList(0, 1 + random.nextInt(all.size())));
                text.add(";");
            }
        }
        int sparse = 1 + random.nextInt(8);
        for (int i = 0; i < guests.size(); i++) {
            for (int j = 0; j < i; j++) {
                if (one(sparse)) {
                    boolean turned = one(2);
                    text.addAll(List.of("shun", guests.get(turned ? i : j), guests.get(turned ? j : i), ";"));
                }
            }
        }
        if (!one(4)) {
            text.add("bill");
            expression(text, 0);
            text.add(";");
        }
    }

    private List<String> morning() {
        List<String> text = new ArrayList<>();
        int lines = one(20) ? 25 : one(10) ? 24 : random.nextInt(9);
        for (int i = 0; i < lines; i++) {
            int kind = random.nextInt(6);
            if (kind < 3 && !guests.isEmpty()) {
                text.addAll(List.of("says", any(guests)));
                formula(text, 0);
            } else if (kind == 3 && !signs.isEmpty()) {
                text.addAll(List.of(any("shows", "hides"), any(signs)));
            } else if (kind == 4) {
                text.addAll(List.of("weather", any(WEATHERS)));
            } else {
                text.add("night");
            }
            text.add(";");
        }
        return text;
    }

    /** Joins tokens; sometimes one is lost, another one comes, or blanks are left out. */
    private String join(List<String> tokens, boolean spoil) {
        List<String> text = new ArrayList<>(tokens);
        int times = spoil ? 1 + random.nextInt(2) : 0;
        for (int i = 0; i < times && !text.isEmpty(); i++) {
            int at = random.nextInt(text.size());
            int kind = random.nextInt(4);
            if (kind == 0) {
                text.remove(at);
            } else if (kind == 1) {
                text.add(at, any(STRAY));
            } else if (kind == 2) {
                text.set(at, any(STRAY));
            } else {
                text.subList(at, text.size()).clear();
            }
        }
        StringBuilder joined = new StringBuilder();
        boolean tight = one(3);
        for (String token : text) {
            boolean needed = joined.length() > 0 && !token.isEmpty()
                    && Character.isLowerCase(joined.charAt(joined.length() - 1))
                    && Character.isLowerCase(token.charAt(0));
            joined.append(needed || !tight ? any(" ", " ", "\n", "  ") : "").append(token);
        }
        return joined.append(one(5) ? " " : "").toString();
    }

    private int number(int below) {
        return one(25) ? any("-1", "-2", "-2147483648", "2147483647", "" + below).transform(Integer::parseInt)
                : random.nextInt(below);
    }

    private void feed(ExtraGuest it, Model model, String text) {
        Check.feed(it, text);
        for (int i = 0; i < text.length(); i += 24) {
            model.feed(Check.eight(text, i), Check.eight(text, i + 8), Check.eight(text, i + 16));
        }
    }

    private void read(ExtraGuest it, Model model, boolean asInn) {
        String text = asInn ? join(inn(), one(3)) : join(morning(), one(3));
        feed(it, model, text);
        int got = asInn ? it.inn() : it.morning();
        int want = asInn ? model.inn() : model.morning();
        Check.due((asInn ? "inn " : "morning ") + text.replace('\n', ' '), got, want);
    }

    private void step(ExtraGuest it, Model model) {
        int n = Math.max(1, model.count(0));
        int s = Math.max(1, model.count(1));
        int x = number(n);
        int y = number(n);
        int z = number(s);
        int w = number(4 * n);
        boolean b = random.nextBoolean();
        int four = number(4);
        switch (random.nextInt(14)) {
            case 0:
            case 1:
                Check.due("answer", it.answer(x, y, b), model.answer(x, y, b));
                break;
            case 2:
                Check.due("sign", it.sign(z, b), model.sign(z, b));
                break;
            case 3:
                Check.due("weather", it.weather(four), model.weather(four));
                break;
            case 4:
            case 5:
                Check.due("night", it.night(), model.night());
                break;
            case 6:
                Check.due("undo", it.undo(), model.undo());
                break;
            case 7:
            case 8:
                Check.due("hear", it.hear(z, b), model.hear(z, b));
                break;
            case 9:
            case 10:
                Check.due("mark", it.mark(four, b), model.mark(four, b));
                break;
            case 11:
                read(it, model, false);
                break;
            default:
                look(it, model, w, x, y);
                break;
        }
        Check.due("left", it.left(), model.left());
    }

    /** All that changes nothing. */
    private void look(ExtraGuest it, Model model, int w, int x, int y) {
        for (int i = -2; i < 10; i++) {
            Check.due("count " + i, it.count(i), model.count(i));
            Check.due("guest " + i, it.guest(x, i), model.guest(x, i));
            Check.due("hunt " + i, it.hunt(i), model.hunt(i));
            Check.due("judged " + i, it.judged(i), model.judged(i));
            Check.due("same " + i, it.same(i), model.same(i));
            Check.due("beds " + i, it.beds(i), model.beds(i));
            Check.due("odds " + i, it.odds(i), model.odds(i));
            Check.due("knows " + i, it.knows(i, w), model.knows(i, w));
            Check.due("sure " + i, it.sure(i, y, w), model.sure(i, y, w));
            Check.due("rounds " + i, it.rounds(w, i), model.rounds(w, i));
            Check.due("errors " + i, it.errors(x, i, 0), model.errors(x, i, 0));
            Check.due("errors " + i, it.errors(x, i, 1), model.errors(x, i, 1));
        }
        Check.due("spare", it.spare(), model.spare());
        Check.due("who", it.who(), model.who());
        Check.due("ask", it.ask(), model.ask());
        Check.due("fewest", it.fewest(), model.fewest());
        Check.due("tell", it.tell(), model.tell());
        Check.due("common", it.common(w), model.common(w));
        Check.due("likely", it.likely(), model.likely());
        Check.due("shows", it.shows(w), model.shows(w));
        int pennies = number(10000);
        for (int i = 0; i < 9; i++) {
            Check.due("bill", it.bill(pennies, i), model.bill(pennies, i));
        }
        int many = number(4);
        int far = number(14) - 1;
        Check.due("watch", it.watch(many, far), model.watch(many, far));
        int seed = number(10000);
        int nights = 1 + number(20);
        int what = number(4);
        Check.due("years", it.years(seed, nights, what), model.years(seed, nights, what));
    }

    public static void main(String[] args) {
        int runs = args.length > 0 ? Integer.parseInt(args[0]) : 250;
        long first = args.length > 1 ? Long.parseLong(args[1]) : 1;
        for (long seed = first; seed < first + runs && Check.wrong() == 0; seed++) {
            ModelTest test = new ModelTest(seed);
            ExtraGuest it = new ExtraGuest();
            Model model = new Model();
            for (int i = 0; i < 3; i++) {
                test.read(it, model, true);
                for (int j = 0; j < 25; j++) {
                    test.step(it, model);
                }
            }
            if (Check.wrong() != 0) {
                System.out.println("with the seed " + seed);
            }
        }
        Check.end();
    }
}

import java.lang.reflect.InvocationTargetException;
import java.lang.reflect.Method;
import java.util.ArrayList;
import java.util.Arrays;
import java.util.Collections;
import java.util.HashMap;
import java.util.List;
import java.util.Map;
import java.util.Random;

/** Random runs of calls, whose answers are compared with those of PlainModel. Arguments: the first seed, how many runs. */
public final class ModelTest {
    /** What each call takes: g guest, f fruit, w what, n steps, k small number, s seed, h hunger, b boolean, l letters, e seen. */
    private static final String[] CALLS = {
        "fault w", "named wl", "guest gw", "guest gw", "fruit fw", "law wgf", "law wgf", "seat gg", "bread gh", "wake g", "go n", "go n",
        "ahead nwg", "ahead nwg", "swoon g", "nextBite w", "table w", "hold", "calm", "bestFed w", "rests gg", "rest ggk",
        "warm kw", "bowl", "uppermost", "hungriest", "marked", "apart gg", "eatenIn f", "loaf gn", "chain gg", "part gg",
        "rudest", "grace n", "untouched", "see nghb", "strike e", "known e", "sweets f", "chance sng", "tried wgn", "undo",
        "keep", "back", "count w", "count w"};

    private static final Map<String, Integer> MOST_WHAT = Map.of("guest", 6, "fruit", 4, "law", 2, "ahead", 4, "table", 6,
            "tried", 4, "count", 12);

    private final Random random;
    private final WaxBowl bowl = new WaxBowl();
    private final PlainModel model = new PlainModel();
    private final StringBuilder log = new StringBuilder();
    private int calls = 0;
    private boolean good = true;
    private static final Map<String, Method> BOWL_METHODS = methods(WaxBowl.class);
    private static final Map<String, Method> MODEL_METHODS = methods(PlainModel.class);

    private ModelTest(long seed) {
        random = new Random(seed);
    }

    private static Map<String, Method> methods(Class<?> type) {
        Map<String, Method> all = new HashMap<>();
        for (Method m : type.getDeclaredMethods()) {
            if (type != WaxBowl.class || java.lang.reflect.Modifier.isPublic(m.getModifiers())) {
                m.setAccessible(true);
                all.put(m.getName(), m);
            }
        }
        return all;
    }

    private static String answer(Method method, Object on, Object[] args) {
        try {
            return String.valueOf(method.invoke(on, args));
        } catch (InvocationTargetException e) {
            return "throws." + e.getCause().getClass().getName();
        } catch (IllegalAccessException e) {
            throw new IllegalStateException(e);
        }
    }

    private void ask(String name, Object... args) {
        if (!good || calls >= 512) {
            return;
        }
        calls++;
        String got = answer(BOWL_METHODS.get(name), bowl, args);
        String want = answer(MODEL_METHODS.get(name), model, args);
        log.append(name).append(Arrays.toString(args)).append(" -> ").append(got).append('\n');
        if (!got.equals(want)) {
            good = false;
            System.out.println(log);
            System.out.println("the model answers " + want);
        }
    }

    private int pick(int least, int most) {
        return least + random.nextInt(most - least + 1);
    }

    private boolean odds(int ofHundred) {
        return random.nextInt(100) < ofHundred;
    }

    private Object argument(char kind, String name) {
        switch (kind) {
            case 'g': return name.equals("tried") && odds(60) ? 0 : odds(90) ? pick(0, 4) : pick(-1, 6);
            case 'f': return odds(90) ? pick(0, 2) : pick(-1, 8);
            case 'w': return odds(95) ? pick(0, MOST_WHAT.getOrDefault(name, 1)) : pick(-1, 14);
            case 'n': return odds(70) ? pick(1, 20) : odds(80) ? pick(0, 200) : pick(-1, 202);
            case 'k': return name.equals("rest") && odds(80) ? pick(0, 1) : pick(-1, 7);
            case 's': return odds(10) ? -1 : odds(20) ? Integer.MAX_VALUE : random.nextInt() & Integer.MAX_VALUE;
            case 'h': return odds(90) ? pick(0, 99) : pick(-1, 101);
            case 'b': return random.nextBoolean();
            case 'l': return Check.letters(odds(50) ? "a" : String.valueOf((char) pick('a', 'h')));
            default: return odds(80) ? pick(-1, 6) : pick(-2, 25);
        }
    }

    private void askAny() {
        String[] call = CALLS[random.nextInt(CALLS.length)].split(" ");
        String kinds = call.length > 1 ? call[1] : "";
        Object[] args = new Object[kinds.length()];
        for (int i = 0; i < args.length; i++) {
            args[i] = argument(kinds.charAt(i), call[0]);
        }
        ask(call[0], args);
    }

    private String expression(int depth) {
        String[] leaves = {"manner", "hunger", "wit", "sweet", "marks", "there", "step"};
        if (depth == 0 || odds(25)) {
            return odds(60) ? leaves[random.nextInt(leaves.length)] : String.valueOf(odds(80) ? pick(0, 40) : pick(0, 9999));
        }
        if (odds(12)) {
            return "(not " + expression(depth - 1) + ")";
        }
        String[] signs = {"+", "+", "-", "-", "*", "/", "<", "<=", "=", "<>", ">=", ">", " and ", " or "};
        String joined = expression(depth - 1) + signs[random.nextInt(signs.length)] + expression(depth - 1);
        return odds(60) ? "(" + joined + ")" : joined;
    }

    private String anyText() {
        List<String> lines = new ArrayList<>();
        int guests = odds(85) ? pick(2, 6) : pick(0, 7);
        for (int i = 0; i < guests; i++) {
            String name = odds(97) ? String.valueOf((char) ('a' + i)) : "a";
            int hunger = odds(70) ? pick(0, 70) : pick(0, odds(97) ? 98 : 99);
            lines.add("guest " + name + " " + pick(0, 99) + " " + hunger + " " + pick(0, 9));
        }
        int fruits = odds(85) ? pick(1, 4) : pick(0, 9);
        for (int i = 0; i < fruits; i++) {
            lines.add(odds(50) ? 0 : lines.size(), "fruit " + (char) ('a' + i) + " " + pick(0, 9) + " " + pick(0, 1));
        }
        for (int i = odds(50) ? pick(0, 8) : 0; i > 0 && guests > 0; i--) {
            lines.add("bite " + (char) ('a' + pick(0, odds(99) ? guests - 1 : guests)) + " " + pick(0, 20));
        }
        List<String> more = new ArrayList<>();
        if (odds(50)) {
            more.add("near " + pick(odds(98) ? 1 : 0, 5));
        }
        if (odds(60)) {
            more.add("cold " + (odds(30) ? 0 : odds(30) ? 100 : odds(30) ? pick(49, 50) : pick(0, 100)));
        }
        if (odds(50)) {
            more.add("seed " + pick(0, 99999));
        }
        for (String law : new String[] {"praise", "dare", "shock"}) {
            if (odds(55)) {
                more.add("law " + law + " " + expression(pick(0, 4)));
            }
        }
        Collections.shuffle(more, random);
        lines.addAll(odds(50) ? 0 : lines.size(), more);
        return odds(90) ? String.join(";", lines) + ";" : String.join(" ;\n", lines) + " ; ";
    }

    private String spoilt(String text) {
        StringBuilder s = new StringBuilder(text);
        String signs = "abz019;;()<=>+-*/ \n!A~\u00e9";
        for (int i = pick(1, 2); i > 0 && s.length() > 0; i--) {
            int at = random.nextInt(s.length());
            char sign = signs.charAt(random.nextInt(signs.length()));
            if (odds(40)) {
                s.setCharAt(at, sign);
            } else if (odds(50)) {
                s.insert(at, sign);
            } else {
                s.deleteCharAt(at);
            }
        }
        return odds(20) ? s.substring(0, random.nextInt(s.length() + 1)) : s.toString();
    }

    /** An E of tokens in a row, most of which can stand where they do, up to more knots than may be. */
    private String anyTokens() {
        String[] values = {"manner", "hunger", "wit", "sweet", "marks", "there", "step", "1", "0", "9999", "12"};
        String[] signs = {"+", "-", "*", "/", "<", "<=", "=", "<>", ">=", ">", "and", "or", "and", "or", "and", "or"};
        StringBuilder s = new StringBuilder("guest a 7 8 9;fruit p 4 1;law ").append(odds(50) ? "dare" : "praise");
        int length = odds(80) ? pick(1, 30) : pick(60, 75);
        boolean value = true;
        int open = 0;
        for (int i = 0; i < length && s.length() < 620; i++) {
            s.append(' ');
            if (odds(1)) {
                value = !value;
            }
            if (value && odds(15)) {
                s.append("(");
                open++;
            } else if (value && odds(10)) {
                s.append("not");
            } else if (!value && open > 0 && odds(25)) {
                s.append(")");
                open--;
            } else {
                s.append(value ? values[random.nextInt(values.length)] : signs[random.nextInt(signs.length)]);
                value = !value;
            }
        }
        s.append(value ? " wit" : "");
        for (; open > 0 && odds(97); open--) {
            s.append(')');
        }
        return s.append(odds(97) ? ";" : "").toString();
    }

    private void tellAny() {
        String text = odds(30) ? anyTokens() : anyText();
        if (odds(30)) {
            text = spoilt(text);
        }
        log.append(text).append('\n');
        for (int at = 0; at < text.length(); at += 20) {
            Object[] five = new Object[5];
            for (int i = 0; i < 5; i++) {
                int four = 0;
                for (int k = 0; k < 4; k++) {
                    int place = at + 4 * i + k;
                    four = four << 8 | (place < text.length() ? text.charAt(place) & 255 : ' ');
                }
                five[i] = four;
            }
            ask("feed", five);
        }
        if (odds(5)) {
            ask("text", pick(-1, 720));
        }
        ask("text", text.length());
        ask("fault", 0);
        ask("fault", 1);
        ask("count", 3);
    }

    private boolean run() {
        tellAny();
        for (int i = 0; i < 500 && good && calls < 512; i++) {
            if (odds(2)) {
                tellAny();
            } else {
                askAny();
            }
        }
        return good;
    }

    /** Many texts, most of them faulty, one object each few. */
    private boolean runTexts() {
        for (int i = 0; i < 200 && good && calls < 512; i++) {
            tellAny();
            for (int what = 0; what < 3; what++) {
                ask("law", what, 0, 0);
            }
        }
        return good;
    }

    public static void main(String[] args) {
        long first = args.length > 0 ? Long.parseLong(args[0]) : 1;
        int runs = args.length > 1 ? Integer.parseInt(args[1]) : 40;
        int wrong = 0;
        int asked = 0;
        for (long seed = first; seed < first + runs && wrong < 3; seed++) {
            ModelTest calls = new ModelTest(seed);
            ModelTest texts = new ModelTest(-seed);
            wrong += calls.run() ? 0 : 1;
            wrong += texts.runTexts() ? 0 : 1;
            asked += calls.calls + texts.calls;
        }
        System.out.println("ModelTest: " + asked + " answers, " + wrong + " runs not as due");
        if (wrong != 0) {
            System.exit(1);
        }
    }
}

import java.math.BigInteger;
import java.util.ArrayList;
import java.util.HashMap;
import java.util.HashSet;
import java.util.List;
import java.util.Map;
import java.util.Set;
import java.util.regex.Matcher;
import java.util.regex.Pattern;

/** The document written down a second time, with the library and without care for speed, to compare answers with. */
final class PlainModel {
    static final class Guest {
        String name;
        int manners, hunger, wit, seat, bit;
        boolean fainted;
    }

    static final class Fruit {
        String name;
        int sweet, marks, fed;
        boolean real, eaten;
    }

    static final class World {
        final List<Guest> guests = new ArrayList<>();
        final List<Fruit> fruits = new ArrayList<>();
        int step;
        BigInteger number = BigInteger.ZERO;

        World copy() {
            World w = new World();
            for (Guest g : guests) {
                Guest h = new Guest();
                h.name = g.name;
                h.manners = g.manners;
                h.hunger = g.hunger;
                h.wit = g.wit;
                h.seat = g.seat;
                h.bit = g.bit;
                h.fainted = g.fainted;
                w.guests.add(h);
            }
            for (Fruit f : fruits) {
                Fruit h = new Fruit();
                h.name = f.name;
                h.sweet = f.sweet;
                h.marks = f.marks;
                h.fed = f.fed;
                h.real = f.real;
                h.eaten = f.eaten;
                w.fruits.add(h);
            }
            w.step = step;
            w.number = number;
            return w;
        }
    }

    interface Node {
        BigInteger value(Map<String, Integer> names);
    }

    static final class Fault extends RuntimeException {
        final int kind, place;

        Fault(int kind, int place) {
            super(null, null, false, false);
            this.kind = kind;
            this.place = place;
        }
    }

    static final class Text {
        World start = new World();
        final List<int[]> bites = new ArrayList<>();
        int near = 1, cold = 0, seed = 0, lines = 0, knots = 0;
        final Map<String, Node> laws = new HashMap<>();
    }

    static final class Parse {
        static final Set<String> LANGUAGE = Set.of("guest", "fruit", "bite", "near", "cold", "seed", "law", "praise", "dare",
                "shock", "or", "and", "not", "manner", "hunger", "wit", "sweet", "marks", "there", "step");
        static final Set<String> NAMES = Set.of("manner", "hunger", "wit", "sweet", "marks", "there", "step");
        static final Pattern TOKEN = Pattern.compile("[a-z]+|[0-9]+|<=|<>|>=|[^ \n]", Pattern.DOTALL);
        final List<String> tokens = new ArrayList<>();
        final List<Integer> places = new ArrayList<>();
        int at = 0, open = 0;
        final Text text = new Text();
        final Set<String> told = new HashSet<>();

        Parse(String s) {
            Matcher m = TOKEN.matcher(s);
            while (m.find()) {
                tokens.add(m.group());
                places.add(m.start());
            }
            tokens.add("");
            places.add(s.length());
        }

        String token() {
            return tokens.get(at);
        }

        Fault fault(int kind) {
            return new Fault(kind, places.get(at));
        }

        Text all() {
            while (!token().isEmpty()) {
                line();
                if (!token().equals(";")) {
                    throw fault(1);
                }
                at++;
                text.lines++;
            }
            text.start.number = BigInteger.valueOf(text.seed);
            return text;
        }

        void line() {
            String word = token();
            switch (word) {
                case "guest": {
                    if (text.start.guests.size() == 6) {
                        throw fault(2);
                    }
                    at++;
                    Guest g = new Guest();
                    g.name = name();
                    for (Guest h : text.start.guests) {
                        if (h.name.equals(g.name)) {
                            at--;
                            throw fault(3);
                        }
                    }
                    g.manners = number(0, 99);
                    g.hunger = number(0, 98);
                    g.wit = number(0, 9);
                    g.seat = text.start.guests.size();
                    text.start.guests.add(g);
                    break;
                }
                case "fruit": {
                    if (text.start.fruits.size() == 8) {
                        throw fault(2);
                    }
                    at++;
                    Fruit f = new Fruit();
                    f.name = name();
                    for (Fruit h : text.start.fruits) {
                        if (h.name.equals(f.name)) {
                            at--;
                            throw fault(3);
                        }
                    }
                    f.sweet = number(0, 9);
                    f.real = number(0, 1) == 1;
                    text.start.fruits.add(f);
                    break;
                }
                case "bite": {
                    if (text.bites.size() == 8) {
                        throw fault(2);
                    }
                    at++;
                    String who = name();
                    int guest = -1;
                    for (int i = 0; i < text.start.guests.size(); i++) {
                        if (text.start.guests.get(i).name.equals(who)) {
                            guest = i;
                        }
                    }
                    if (guest < 0) {
                        at--;
                        throw fault(4);
                    }
                    text.bites.add(new int[] {guest, number(0, 99)});
                    break;
                }
                case "near":
                case "cold":
                case "seed":
                    if (!told.add(word)) {
                        throw fault(3);
                    }
                    at++;
                    if (word.equals("near")) {
                        text.near = number(1, 5);
                    } else if (word.equals("cold")) {
                        text.cold = number(0, 100);
                    } else {
                        text.seed = number(0, 99999);
                    }
                    break;
                case "law": {
                    at++;
                    String law = token();
                    if (!Set.of("praise", "dare", "shock").contains(law)) {
                        throw fault(1);
                    }
                    if (text.laws.containsKey(law)) {
                        throw fault(3);
                    }
                    at++;
                    open = 0;
                    text.laws.put(law, or());
                    break;
                }
                default:
                    throw fault(1);
            }
        }

        String name() {
            String w = token();
            if (!w.matches("[a-z]{1,6}") || LANGUAGE.contains(w)) {
                throw fault(1);
            }
            at++;
            return w;
        }

        int number(int least, int most) {
            if (!token().matches("[0-9]+")) {
                throw fault(1);
            }
            BigInteger n = new BigInteger(token());
            if (n.compareTo(BigInteger.valueOf(least)) < 0 || n.compareTo(BigInteger.valueOf(most)) > 0) {
                throw fault(2);
            }
            at++;
            return n.intValueExact();
        }

        void knot() {
            if (text.knots == 64) {
                throw fault(2);
            }
            text.knots++;
        }

        static BigInteger truth(boolean b) {
            return b ? BigInteger.ONE : BigInteger.ZERO;
        }

        Node or() {
            Node left = and();
            while (token().equals("or")) {
                knot();
                at++;
                Node a = left, b = and();
                left = n -> truth((a.value(n).signum() != 0) | (b.value(n).signum() != 0));
            }
            return left;
        }

        Node and() {
            Node left = not();
            while (token().equals("and")) {
                knot();
                at++;
                Node a = left, b = not();
                left = n -> truth((a.value(n).signum() != 0) & (b.value(n).signum() != 0));
            }
            return left;
        }

        Node not() {
            if (token().equals("not")) {
                knot();
                at++;
                Node a = not();
                return n -> truth(a.value(n).signum() == 0);
            }
            return comparison();
        }

        Node comparison() {
            Node a = sum();
            String sign = token();
            if (!Set.of("<", "<=", "=", "<>", ">=", ">").contains(sign)) {
                return a;
            }
            knot();
            at++;
            Node b = sum();
            return n -> {
                int c = a.value(n).compareTo(b.value(n));
                switch (sign) {
                    case "<": return truth(c < 0);
                    case "<=": return truth(c <= 0);
                    case "=": return truth(c == 0);
                    case "<>": return truth(c != 0);
                    case ">=": return truth(c >= 0);
                    default: return truth(c > 0);
                }
            };
        }

        Node sum() {
            Node left = product();
            while (token().equals("+") || token().equals("-")) {
                boolean plus = token().equals("+");
                knot();
                at++;
                Node a = left, b = product();
                left = n -> bounded(plus ? a.value(n).add(b.value(n)) : a.value(n).subtract(b.value(n)));
            }
            return left;
        }

        Node product() {
            Node left = part();
            while (token().equals("*") || token().equals("/")) {
                boolean times = token().equals("*");
                knot();
                at++;
                Node a = left, b = part();
                left = n -> {
                    BigInteger x = a.value(n), y = b.value(n);
                    if (!times && y.signum() == 0) {
                        throw new ArithmeticException();
                    }
                    return bounded(times ? x.multiply(y) : x.divide(y));
                };
            }
            return left;
        }

        static BigInteger bounded(BigInteger v) {
            if (v.abs().compareTo(BigInteger.TEN.pow(12)) > 0) {
                throw new ArithmeticException();
            }
            return v;
        }

        Node part() {
            String t = token();
            if (t.equals("(")) {
                if (open == 8) {
                    throw fault(2);
                }
                open++;
                at++;
                Node a = or();
                if (!token().equals(")")) {
                    throw fault(1);
                }
                at++;
                open--;
                return a;
            }
            if (NAMES.contains(t)) {
                knot();
                at++;
                return n -> BigInteger.valueOf(n.get(t));
            }
            if (t.matches("[0-9]+")) {
                knot();
                BigInteger v = BigInteger.valueOf(number(0, 9999));
                return n -> v;
            }
            throw fault(1);
        }
    }

    /** How steps are tried. */
    static final class How {
        boolean numbers, noDraughts, noBites, allReal, allHear;
        int silent = -1, fruit = -1, sweet = 0;
        Set<Integer> away = Set.of();
    }

    static final class Sight {
        int steps, guest, hunger, struck = -1;
        boolean atLeast;
    }

    private StringBuilder tape = new StringBuilder();
    private Text text = new Text();
    private World now = new World();
    private World image = null;
    private int faultKind = 0, faultPlace = -1;
    private List<World> undos = new ArrayList<>();
    private List<Sight> sights = new ArrayList<>();
    private int knownBy = -1;

    int feed(int a, int b, int c, int d, int e) {
        if (tape.length() + 20 > 700) {
            return -1;
        }
        for (int n : new int[] {a, b, c, d, e}) {
            for (int shift = 24; shift >= 0; shift -= 8) {
                tape.append((char) (n >>> shift & 255));
            }
        }
        return tape.length();
    }

    int text(int n) {
        if (n < 0 || n > tape.length()) {
            return -2;
        }
        String s = tape.substring(0, n);
        tape = new StringBuilder();
        try {
            text = new Parse(s).all();
        } catch (Fault f) {
            faultKind = f.kind;
            faultPlace = f.place;
            return -1;
        }
        faultKind = 0;
        faultPlace = -1;
        now = text.start.copy();
        image = null;
        undos.clear();
        sights.clear();
        knownBy = -1;
        return text.lines;
    }

    int fault(int what) {
        return what == 0 ? faultKind : what == 1 ? faultPlace : -1;
    }

    int named(int what, int letters) {
        List<String> names = new ArrayList<>();
        if (what == 0) {
            now.guests.forEach(g -> names.add(g.name));
        }
        if (what == 1) {
            now.fruits.forEach(f -> names.add(f.name));
        }
        for (int i = 0; i < names.size(); i++) {
            if (Check.letters(names.get(i)) == letters) {
                return i;
            }
        }
        return -1;
    }

    boolean isGuest(int g) {
        return g >= 0 && g < now.guests.size();
    }

    boolean isFruit(int f) {
        return f >= 0 && f < now.fruits.size();
    }

    boolean isThere(int g) {
        return isGuest(g) && !now.guests.get(g).fainted;
    }

    static boolean sits(World w, How how, int g) {
        return !w.guests.get(g).fainted && !how.away.contains(g);
    }

    static int distance(World w, int a, int b) {
        int seats = w.guests.size();
        int there = Math.floorMod(w.guests.get(a).seat - w.guests.get(b).seat, seats);
        int back = Math.floorMod(w.guests.get(b).seat - w.guests.get(a).seat, seats);
        return Math.min(there, back);
    }

    List<Integer> hearers(World w, How how, int g) {
        List<Integer> all = new ArrayList<>();
        for (int h = 0; h < w.guests.size(); h++) {
            if (h != g && sits(w, how, h) && sits(w, how, g) && (how.allHear || distance(w, g, h) <= text.near)) {
                all.add(h);
            }
        }
        return all;
    }

    /** A law's E; null without it or with an ERROR. */
    BigInteger worked(String law, World w, How how, int guest, int fruit) {
        if (!text.laws.containsKey(law)) {
            return null;
        }
        Map<String, Integer> names = new HashMap<>();
        Guest g = w.guests.get(guest);
        names.put("manner", g.manners);
        names.put("hunger", g.hunger);
        names.put("wit", g.wit);
        names.put("sweet", sweet(w, how, fruit));
        names.put("marks", w.fruits.get(fruit).marks);
        int there = 0;
        for (int i = 0; i < w.guests.size(); i++) {
            there += sits(w, how, i) ? 1 : 0;
        }
        names.put("there", there);
        names.put("step", w.step);
        try {
            return text.laws.get(law).value(names);
        } catch (ArithmeticException e) {
            return null;
        }
    }

    static int sweet(World w, How how, int fruit) {
        return how.fruit == fruit ? how.sweet : w.fruits.get(fruit).sweet;
    }

    static int clamp(BigInteger v) {
        return v.max(BigInteger.ZERO).min(BigInteger.valueOf(99)).intValueExact();
    }

    int praiseOf(World w, How how, int g, int f) {
        BigInteger v = worked("praise", w, how, g, f);
        return v != null ? clamp(v) : Math.max(0, w.guests.get(g).wit + sweet(w, how, f) - w.fruits.get(f).marks);
    }

    int draw(World w) {
        w.number = w.number.multiply(BigInteger.valueOf(1103515245)).add(BigInteger.valueOf(12345))
                .mod(BigInteger.ONE.shiftLeft(31));
        return w.number.divide(BigInteger.valueOf(65536)).mod(BigInteger.valueOf(100)).intValueExact();
    }

    boolean draught(World w, How how) {
        if (how.noDraughts) {
            return false;
        }
        if (!how.numbers) {
            return text.cold >= 50;
        }
        if (text.cold == 0) {
            return false;
        }
        return text.cold == 100 || draw(w) < text.cold;
    }

    /** One step: who bites, or -1. */
    int step(World w, How how) {
        int biter = -1;
        int bowl = -1;
        for (int g = 0; g < w.guests.size(); g++) {
            if (w.guests.get(g).seat == w.step % w.guests.size() && sits(w, how, g)) {
                bowl = g;
            }
        }
        if (bowl >= 0 && !w.fruits.isEmpty()) {
            int top = w.step % w.fruits.size();
            Guest g = w.guests.get(bowl);
            Fruit f = w.fruits.get(top);
            boolean bites = false;
            for (int[] b : text.bites) {
                bites |= b[0] == bowl && b[1] == w.step;
            }
            BigInteger dare = worked("dare", w, how, bowl, top);
            bites |= dare == null ? g.hunger > g.manners : dare.signum() != 0;
            if (bites && !how.noBites) {
                biter = bowl;
                g.bit++;
                f.marks++;
                if ((f.real || how.allReal) && !f.eaten) {
                    f.eaten = true;
                    g.hunger = 0;
                }
                for (int h : hearers(w, how, bowl)) {
                    BigInteger shock = worked("shock", w, how, h, top);
                    Guest other = w.guests.get(h);
                    other.manners = Math.max(0, other.manners - (shock == null ? 10 : clamp(shock)));
                }
            } else if (bowl != how.silent) {
                int much = praiseOf(w, how, bowl, top);
                for (int h : hearers(w, how, bowl)) {
                    Guest other = w.guests.get(h);
                    int then = Math.max(0, other.hunger - much);
                    f.fed += other.hunger - then;
                    other.hunger = then;
                }
            }
        }
        for (int g = 0; g < w.guests.size(); g++) {
            if (sits(w, how, g)) {
                w.guests.get(g).hunger += draught(w, how) ? 3 : 1;
            }
        }
        for (int g = 0; g < w.guests.size(); g++) {
            if (sits(w, how, g) && w.guests.get(g).hunger >= 99) {
                w.guests.get(g).fainted = true;
            }
        }
        w.step++;
        return biter;
    }

    World after(int n, How how) {
        World w = now.copy();
        for (int i = 0; i < n; i++) {
            step(w, how);
        }
        return w;
    }

    static int there(World w) {
        return (int) w.guests.stream().filter(g -> !g.fainted).count();
    }

    static int bites(World w) {
        return w.guests.stream().mapToInt(g -> g.bit).sum();
    }

    static int fed(World w) {
        return w.fruits.stream().mapToInt(f -> f.fed).sum();
    }

    int guest(int guest, int what) {
        if (!isGuest(guest)) {
            throw new IndexOutOfBoundsException();
        }
        Guest g = now.guests.get(guest);
        switch (what) {
            case 0: return g.manners;
            case 1: return g.hunger;
            case 2: return g.wit;
            case 3: return g.seat;
            case 4: return g.fainted ? 0 : 1;
            case 5: return hearers(now, new How(), guest).stream().mapToInt(h -> 1 << h).sum();
            case 6: return g.bit;
            default: throw new java.util.NoSuchElementException();
        }
    }

    int fruit(int fruit, int what) {
        if (!isFruit(fruit)) {
            return -1;
        }
        Fruit f = now.fruits.get(fruit);
        int[] all = {f.sweet, f.real ? 1 : 0, f.eaten ? 1 : 0, f.marks, f.fed};
        return what >= 0 && what < 5 ? all[what] : -1;
    }

    long law(int what, int guest, int fruit) {
        if (what < 0 || what > 2 || !isGuest(guest) || !isFruit(fruit)) {
            return Long.MIN_VALUE;
        }
        BigInteger v = worked(List.of("praise", "dare", "shock").get(what), now, new How(), guest, fruit);
        return v == null ? Long.MIN_VALUE : v.longValueExact();
    }

    void remember() {
        undos.add(now.copy());
        if (undos.size() > 20) {
            undos.remove(0);
        }
    }

    boolean seat(int one, int other) {
        if (!isGuest(one) || !isGuest(other) || one == other) {
            return false;
        }
        remember();
        int s = now.guests.get(one).seat;
        now.guests.get(one).seat = now.guests.get(other).seat;
        now.guests.get(other).seat = s;
        return true;
    }

    int bread(int guest, int much) {
        if (!isThere(guest) || much < 1 || much > 99) {
            return -1;
        }
        remember();
        Guest g = now.guests.get(guest);
        g.hunger = Math.max(0, g.hunger - much);
        return g.hunger;
    }

    boolean wake(int guest) {
        if (!isGuest(guest) || isThere(guest)) {
            return false;
        }
        remember();
        now.guests.get(guest).fainted = false;
        now.guests.get(guest).hunger = 50;
        return true;
    }

    int go(int n) {
        if (n < 0 || n > 200 || now.step + n > 9000) {
            return -1;
        }
        How how = new How();
        how.numbers = true;
        now = after(n, how);
        if (n > 0) {
            undos.clear();
        }
        return now.step;
    }

    int ahead(int n, int what, int guest) {
        if (n < 0 || n > 200 || what < 0 || what > 4 || (what == 2 || what == 3) && !isGuest(guest)) {
            return -1;
        }
        World w = after(n, new How());
        switch (what) {
            case 0: return bites(w) - bites(now);
            case 1: return there(now) - there(w);
            case 2: return w.guests.get(guest).hunger;
            case 3: return w.guests.get(guest).manners;
            default: return fed(w) - fed(now);
        }
    }

    int swoon(int guest) {
        if (!isGuest(guest)) {
            return -1;
        }
        World w = now.copy();
        for (int n = 0; n <= 199; n++) {
            if (w.guests.get(guest).fainted) {
                return n;
            }
            step(w, new How());
        }
        return -2;
    }

    int nextBite(int what) {
        if (what != 0 && what != 1) {
            return -1;
        }
        World w = now.copy();
        for (int n = 1; n <= 199; n++) {
            int who = step(w, new How());
            if (who >= 0) {
                return what == 0 ? n : who;
            }
        }
        return -2;
    }

    int table(int what) {
        if (what < 0 || what > 6) {
            return -1;
        }
        if (what < 6 && what >= now.guests.size()) {
            return -2;
        }
        List<Integer> seats = new ArrayList<>();
        List<Integer> rest = new ArrayList<>();
        for (int g = 0; g < now.guests.size(); g++) {
            (now.guests.get(g).seat == 0 ? seats : rest).add(g);
        }
        List<List<Integer>> all = new ArrayList<>();
        orders(seats, rest, all);
        int best = 99;
        List<Integer> chosen = null;
        for (List<Integer> order : all) {
            World w = now.copy();
            for (int s = 0; s < order.size(); s++) {
                w.guests.get(order.get(s)).seat = s;
            }
            for (int i = 0; i < 40; i++) {
                step(w, new How());
            }
            int more = there(now) - there(w);
            if (more < best) {
                best = more;
                chosen = order;
            }
        }
        return what == 6 ? best : chosen.get(what);
    }

    static void orders(List<Integer> head, List<Integer> rest, List<List<Integer>> all) {
        if (rest.isEmpty()) {
            all.add(head);
        }
        for (Integer g : rest) {
            List<Integer> longer = new ArrayList<>(head);
            longer.add(g);
            List<Integer> fewer = new ArrayList<>(rest);
            fewer.remove(g);
            orders(longer, fewer, all);
        }
    }

    int hold() {
        World w = now.copy();
        for (int n = 0; n <= 999; n++) {
            if (there(w) == 0) {
                return n;
            }
            step(w, new How());
        }
        return -2;
    }

    /** The sets of some, fewest first, then the least. */
    static List<Integer> setsOf(Set<Integer> some) {
        List<Integer> all = new ArrayList<>();
        for (int bits = 0; bits < 64; bits++) {
            if (some.containsAll(members(bits))) {
                all.add(bits);
            }
        }
        all.sort((a, b) -> Integer.bitCount(a) != Integer.bitCount(b)
                ? Integer.compare(Integer.bitCount(a), Integer.bitCount(b)) : Integer.compare(a, b));
        return all;
    }

    static Set<Integer> members(int bits) {
        Set<Integer> all = new HashSet<>();
        for (int i = 0; i < 31; i++) {
            if ((bits & 1 << i) != 0) {
                all.add(i);
            }
        }
        return all;
    }

    Set<Integer> thereNow() {
        Set<Integer> all = new HashSet<>();
        for (int g = 0; g < now.guests.size(); g++) {
            if (isThere(g)) {
                all.add(g);
            }
        }
        return all;
    }

    int calm() {
        for (int bits : setsOf(thereNow())) {
            How how = new How();
            how.away = members(bits);
            if (bites(after(30, how)) == bites(now)) {
                return bits;
            }
        }
        return -2;
    }

    int bestFed(int what) {
        if (what != 0 && what != 1) {
            return -1;
        }
        if (thereNow().isEmpty() || now.fruits.isEmpty()) {
            return -2;
        }
        int best = -1, most = -1;
        for (int g = 0; g < now.guests.size(); g++) {
            if (!isThere(g)) {
                continue;
            }
            int much = praiseOf(now, new How(), g, now.step % now.fruits.size());
            int sum = 0;
            for (int h : hearers(now, new How(), g)) {
                sum += Math.min(much, now.guests.get(h).hunger);
            }
            if (sum > most) {
                most = sum;
                best = g;
            }
        }
        return what == 0 ? best : most;
    }

    /** What each has of a duel. */
    int[] duel(Guest a, Guest b, int x, int y) {
        if (x == 0 && y == 0) {
            return new int[] {b.wit, a.wit};
        }
        if (x == 1 && y == 1) {
            return new int[] {-(a.manners / 20), -(b.manners / 20)};
        }
        return x == 1 ? new int[] {a.hunger / 5, b.wit - 5} : new int[] {a.wit - 5, b.hunger / 5};
    }

    List<Integer> allRests(int one, int other) {
        Guest a = now.guests.get(one), b = now.guests.get(other);
        List<Integer> all = new ArrayList<>();
        for (int x = 0; x < 2; x++) {
            for (int y = 0; y < 2; y++) {
                if (duel(a, b, 1 - x, y)[0] <= duel(a, b, x, y)[0] && duel(a, b, x, 1 - y)[1] <= duel(a, b, x, y)[1]) {
                    all.add(10 * x + y);
                }
            }
        }
        return all;
    }

    int rests(int one, int other) {
        return isGuest(one) && isGuest(other) && one != other ? allRests(one, other).size() : -1;
    }

    int rest(int one, int other, int k) {
        if (rests(one, other) == -1 || k < 0) {
            return -1;
        }
        return k < rests(one, other) ? allRests(one, other).get(k) : -2;
    }

    long warm(int n, int what) {
        if (n < 0 || n > 6 || what < 0 || what > 1) {
            return -1;
        }
        BigInteger above = BigInteger.valueOf(100 - text.cold).pow(n), below = BigInteger.valueOf(100).pow(n);
        BigInteger common = above.gcd(below);
        return (what == 0 ? above : below).divide(common).longValueExact();
    }

    int bowl() {
        for (int g = 0; g < now.guests.size(); g++) {
            if (isThere(g) && now.guests.get(g).seat == now.step % now.guests.size()) {
                return g;
            }
        }
        return -2;
    }

    int uppermost() {
        return now.fruits.isEmpty() ? -2 : now.step % now.fruits.size();
    }

    int hungriest() {
        return thereNow().stream().max((a, b) -> now.guests.get(a).hunger != now.guests.get(b).hunger
                ? now.guests.get(a).hunger - now.guests.get(b).hunger : b - a).orElse(-2);
    }

    int rudest() {
        return thereNow().stream().min((a, b) -> now.guests.get(a).manners != now.guests.get(b).manners
                ? now.guests.get(a).manners - now.guests.get(b).manners : a - b).orElse(-2);
    }

    int marked() {
        int bits = 0;
        for (int f = 0; f < now.fruits.size(); f++) {
            bits += now.fruits.get(f).marks > 0 ? 1 << f : 0;
        }
        return bits;
    }

    int untouched() {
        int bits = 0;
        for (int f = 0; f < now.fruits.size(); f++) {
            bits += now.fruits.get(f).marks == 0 && !now.fruits.get(f).eaten ? 1 << f : 0;
        }
        return bits;
    }

    int apart(int one, int other) {
        return isGuest(one) && isGuest(other) ? distance(now, one, other) : -1;
    }

    int eatenIn(int fruit) {
        if (!isFruit(fruit)) {
            return -1;
        }
        World w = now.copy();
        for (int n = 0; n <= 199; n++) {
            if (w.fruits.get(fruit).eaten) {
                return n;
            }
            step(w, new How());
        }
        return -2;
    }

    int loaf(int guest, int n) {
        if (!isThere(guest) || n < 1 || n > 99) {
            return -1;
        }
        for (int much = 0; much <= 99; much++) {
            World w = now.copy();
            w.guests.get(guest).hunger = Math.max(0, w.guests.get(guest).hunger - much);
            for (int i = 0; i < n; i++) {
                step(w, new How());
            }
            if (!w.guests.get(guest).fainted) {
                return much;
            }
        }
        return -2;
    }

    /** Over how many, without some; -2: it doesn't come there. */
    int way(int one, int other, Set<Integer> without) {
        List<Integer> line = new ArrayList<>(List.of(one));
        Map<Integer, Integer> far = new HashMap<>();
        far.put(one, 0);
        for (int i = 0; i < line.size(); i++) {
            for (int h : hearers(now, new How(), line.get(i))) {
                if (!far.containsKey(h) && !without.contains(h)) {
                    far.put(h, far.get(line.get(i)) + 1);
                    line.add(h);
                }
            }
        }
        return far.getOrDefault(other, -2);
    }

    int chain(int one, int other) {
        return isThere(one) && isThere(other) ? way(one, other, Set.of()) : -1;
    }

    int part(int one, int other) {
        if (!isThere(one) || !isThere(other) || one == other) {
            return -1;
        }
        Set<Integer> others = thereNow();
        others.remove(one);
        others.remove(other);
        for (int bits : setsOf(others)) {
            if (way(one, other, members(bits)) == -2) {
                return bits;
            }
        }
        return -2;
    }

    int grace(int n) {
        if (n < 0 || n > 200) {
            return -1;
        }
        return after(n, new How()).guests.stream().filter(g -> !g.fainted).mapToInt(g -> g.manners).sum();
    }

    int see(int steps, int guest, int hunger, boolean atLeast) {
        if (steps < 1 || steps > 99 || !isGuest(guest) || hunger < 0 || hunger > 99 || sights.size() == 24) {
            return -1;
        }
        Sight s = new Sight();
        s.steps = steps;
        s.guest = guest;
        s.hunger = hunger;
        s.atLeast = atLeast;
        sights.add(s);
        return sights.size() - 1;
    }

    int strike(int seen) {
        if (seen < 0 || seen >= sights.size() || sights.size() == 24) {
            return -1;
        }
        Sight s = new Sight();
        s.struck = seen;
        sights.add(s);
        return sights.size() - 1;
    }

    boolean known(int n) {
        if (n < -1 || n > sights.size()) {
            return false;
        }
        knownBy = n;
        return true;
    }

    boolean counts(int i, int n) {
        for (int k = i + 1; k < n; k++) {
            if (sights.get(k).struck == i && counts(k, n)) {
                return false;
            }
        }
        return true;
    }

    int sweets(int fruit) {
        if (!isFruit(fruit)) {
            return -1;
        }
        int n = knownBy < 0 ? sights.size() : knownBy;
        int bits = 0;
        for (int sweet = 0; sweet < 10; sweet++) {
            How how = new How();
            how.fruit = fruit;
            how.sweet = sweet;
            List<World> course = new ArrayList<>(List.of(text.start.copy()));
            for (int i = 0; i < 99; i++) {
                World w = course.get(i).copy();
                step(w, how);
                course.add(w);
            }
            boolean fits = true;
            for (int i = 0; i < n; i++) {
                Sight s = sights.get(i);
                if (s.struck < 0 && counts(i, n)) {
                    fits &= s.atLeast == course.get(s.steps).guests.get(s.guest).hunger >= s.hunger;
                }
            }
            bits += fits ? 1 << sweet : 0;
        }
        return bits;
    }

    int chance(int seed, int n, int guest) {
        if (seed < 0 || n < 1 || n > 99 || !isGuest(guest)) {
            return -1;
        }
        BigInteger number = BigInteger.valueOf(seed);
        How how = new How();
        how.numbers = true;
        int gone = 0;
        for (int i = 0; i < 10; i++) {
            World w = now.copy();
            w.number = number;
            for (int k = 0; k < n; k++) {
                step(w, how);
            }
            number = w.number;
            gone += w.guests.get(guest).fainted ? 1 : 0;
        }
        return gone;
    }

    int tried(int what, int i, int n) {
        if (what < 0 || what > 4 || n < 0 || n > 200 || (what == 2 ? !isGuest(i) : i != 0)) {
            return -1;
        }
        How how = new How();
        how.noDraughts = what == 0;
        how.noBites = what == 1;
        how.silent = what == 2 ? i : -1;
        how.allReal = what == 3;
        how.allHear = what == 4;
        return there(now) - there(after(n, how));
    }

    int undo() {
        if (undos.isEmpty()) {
            return -1;
        }
        now = undos.remove(undos.size() - 1);
        return undos.size();
    }

    int keep() {
        image = now.copy();
        return now.step;
    }

    int back() {
        if (image == null) {
            return -1;
        }
        now = image.copy();
        undos.clear();
        return now.step;
    }

    int count(int what) {
        int[] all = {now.guests.size(), now.fruits.size(), text.bites.size(), text.knots, now.step, there(now), bites(now),
            (int) now.fruits.stream().filter(f -> f.eaten).count(), fed(now),
            now.guests.stream().filter(g -> !g.fainted).mapToInt(g -> g.hunger).sum(),
            sights.size(), knownBy < 0 ? sights.size() : knownBy, undos.size()};
        return what >= 0 && what < all.length ? all[what] : -1;
    }
}

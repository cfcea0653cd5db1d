import java.util.ArrayDeque;
import java.util.ArrayList;
import java.util.Arrays;
import java.util.Deque;
import java.util.HashSet;
import java.util.LinkedHashMap;
import java.util.List;
import java.util.Map;
import java.util.Set;
import java.util.TreeMap;
import java.util.regex.Matcher;
import java.util.regex.Pattern;

/** The document once more, written in another way than CookedLaw, to hold both against each other. */
final class Model {
    static final class Fault extends RuntimeException {
        final int number;
        final int at;

        Fault(int number, int at) {
            super(null, null, false, false);
            this.number = number;
            this.at = at;
        }
    }

    static final class DividedByZero extends RuntimeException {
        DividedByZero() {
            super(null, null, false, false);
        }
    }

    interface Sum {
        int value(Map<String, Integer> vars);
    }

    record Token(String text, int at) {
        boolean isName() {
            return text.matches("[a-z]{1,8}") && !WORDS.contains(text);
        }

        boolean isInt() {
            return text.matches("[0-9]{1,4}");
        }
    }

    record Food(String name, int stock, int price, int[] brings) { }

    record Dish(String name, int heat, int[] amounts) { }

    record Guest(String name, int palate) { }

    record Deed(String name, int force, int limit) { }

    record Pot(int dish, int[] sums, int many) { }

    record Known(int force, int heat, int is) { }

    static final Set<String> VARS = Set.of("sum", "heat", "kind", "many", "day", "palate", "ago", "stock", "price");
    static final Set<String> WORDS = new HashSet<>(List.of("food", "dish", "guest", "deed", "force", "binds", "fills",
            "slips", "seed", "if", "then", "else"));

    static {
        WORDS.addAll(VARS);
    }

    static final class Land {
        final List<Food> foods = new ArrayList<>();
        final List<Dish> dishes = new ArrayList<>();
        final List<Guest> guests = new ArrayList<>();
        final List<Deed> deeds = new ArrayList<>();
        final Map<String, Sum> laws = new TreeMap<>();
        int seed;
    }

    static final class Meal {
        int[] forces;
        int day;
    }

    static final class State {
        int day;
        int paid;
        int cooked;
        int served = -2;
        int[] servedForces = new int[3];
        int[] stock = new int[0];
        int[] cookedOf = new int[0];
        int[] meals = new int[0];
        Meal[] last = new Meal[0];

        State copy() {
            State s = new State();
            s.day = day;
            s.paid = paid;
            s.cooked = cooked;
            s.served = served;
            s.servedForces = servedForces.clone();
            s.stock = stock.clone();
            s.cookedOf = cookedOf.clone();
            s.meals = meals.clone();
            s.last = last.clone();
            return s;
        }
    }

    /** Reads by recursion; late faults are kept beside. */
    static final class Parser {
        final List<Token> tokens = new ArrayList<>();
        final int length;
        final Land land = new Land();
        final Map<String, Integer> names = new LinkedHashMap<>();
        Fault late;
        int next;

        Parser(String text) {
            length = text.length();
            Matcher m = Pattern.compile("[a-z]+|[0-9]+|[^\\t\\n\\r ]", Pattern.DOTALL).matcher(text);
            while (m.find()) {
                tokens.add(new Token(m.group(), m.start()));
            }
        }

        Token peek() {
            return next < tokens.size() ? tokens.get(next) : new Token("", length);
        }

        Token accept() {
            Token t = peek();
            if (next >= 400) {
                throw new Fault(2, t.at);
            }
            next++;
            return t;
        }

        Token need(boolean good) {
            if (!good) {
                throw new Fault(1, peek().at);
            }
            return accept();
        }

        void need(String text) {
            need(peek().text.equals(text));
        }

        void late(int number, int at) {
            if (late == null) {
                late = new Fault(number, at);
            }
        }

        int number(int most) {
            Token t = need(peek().isInt());
            int v = Integer.parseInt(t.text);
            if (v > most) {
                late(5, t.at);
            }
            return v;
        }

        String name(int food) {
            Token t = need(peek().isName());
            if (names.containsKey(t.text)) {
                late(3, t.at);
            } else {
                names.put(t.text, food);
            }
            return t.text;
        }

        void room(int there, int most) {
            if (there == most) {
                throw new Fault(2, peek().at);
            }
            accept();
        }

        Land land() {
            while (next < tokens.size()) {
                String word = peek().text;
                switch (word) {
                    case "food" -> {
                        room(land.foods.size(), 6);
                        String name = name(land.foods.size());
                        land.foods.add(new Food(name, number(99), number(9), new int[] {number(9), number(9), number(9)}));
                    }
                    case "dish" -> dish();
                    case "guest" -> {
                        room(land.guests.size(), 4);
                        land.guests.add(new Guest(name(-1), number(9)));
                    }
                    case "deed" -> {
                        room(land.deeds.size(), 6);
                        land.deeds.add(new Deed(name(-1), number(2), number(99)));
                    }
                    case "force", "binds", "fills", "slips" -> {
                        accept();
                        land.laws.put(word, law());
                    }
                    case "seed" -> {
                        accept();
                        land.seed = number(9999);
                    }
                    default -> throw new Fault(1, peek().at);
                }
                need(";");
            }
            if (late != null) {
                throw late;
            }
            return land;
        }

        void dish() {
            room(land.dishes.size(), 5);
            String name = name(-1);
            int heat = number(9);
            int[] amounts = new int[6];
            int many = 0;
            do {
                if (many == 6) {
                    throw new Fault(2, peek().at);
                }
                Token t = need(peek().isName());
                int food = names.getOrDefault(t.text, -1);
                if (food < 0) {
                    late(4, t.at);
                } else {
                    amounts[food]++;
                }
                many++;
            } while (peek().isName());
            land.dishes.add(new Dish(name, heat, amounts));
        }

        Sum law() {
            need("=");
            return branch(0);
        }

        Sum branch(int ifs) {
            if (!peek().text.equals("if")) {
                return sum(0);
            }
            if (ifs == 4) {
                throw new Fault(2, peek().at);
            }
            accept();
            Sum left = sum(0);
            need("<");
            Sum right = sum(0);
            need("then");
            Sum yes = sum(0);
            need("else");
            Sum no = branch(ifs + 1);
            return vars -> left.value(vars) < right.value(vars) ? yes.value(vars) : no.value(vars);
        }

        Sum sum(int deep) {
            Sum all = part(deep);
            while (peek().text.equals("+") || peek().text.equals("-")) {
                boolean plus = accept().text.equals("+");
                Sum left = all;
                Sum right = part(deep);
                all = plus ? v -> left.value(v) + right.value(v) : v -> left.value(v) - right.value(v);
            }
            return all;
        }

        Sum part(int deep) {
            Sum all = unit(deep);
            while (peek().text.equals("*") || peek().text.equals("/")) {
                boolean times = accept().text.equals("*");
                Sum left = all;
                Sum right = unit(deep);
                all = times ? v -> left.value(v) * right.value(v) : v -> quotient(left.value(v), right.value(v));
            }
            return all;
        }

        static int quotient(int left, int right) {
            if (right == 0) {
                throw new DividedByZero();
            }
            return (int) ((long) left / (long) right);
        }

        Sum unit(int deep) {
            Token t = peek();
            if (t.isInt()) {
                accept();
                int v = Integer.parseInt(t.text);
                return vars -> v;
            }
            if (VARS.contains(t.text)) {
                accept();
                return vars -> vars.getOrDefault(t.text, 0);
            }
            if (!t.text.equals("(")) {
                throw new Fault(1, t.at);
            }
            if (deep == 6) {
                throw new Fault(2, t.at);
            }
            accept();
            Sum inner = sum(deep + 1);
            need(")");
            return inner;
        }
    }

    private final StringBuilder tape = new StringBuilder();
    private Land land = new Land();
    private State now = new State();
    private final Deque<State> past = new ArrayDeque<>();
    private final State[] slots = new State[3];
    private final List<Known> told = new ArrayList<>();
    private int place = -1;

    int feed(int a, int b, int c, int d, int e) {
        if (tape.length() > 1980) {
            return -1;
        }
        for (int word : new int[] {a, b, c, d, e}) {
            for (int i = 0; i < 4; i++) {
                tape.append((char) (word >>> (24 - 8 * i) & 0xff));
            }
        }
        return tape.length();
    }

    int back(int n) {
        if (n < 0 || n > tape.length()) {
            return -1;
        }
        tape.setLength(tape.length() - n);
        return tape.length();
    }

    int read() {
        String text = tape.toString();
        tape.setLength(0);
        place = -1;
        try {
            land = new Parser(text).land();
        } catch (Fault f) {
            place = f.at;
            return f.number;
        }
        now = new State();
        now.stock = land.foods.stream().mapToInt(Food::stock).toArray();
        now.cookedOf = new int[land.dishes.size()];
        now.meals = new int[land.guests.size()];
        now.last = new Meal[land.guests.size()];
        past.clear();
        told.clear();
        Arrays.fill(slots, null);
        return 0;
    }

    int place() {
        return place;
    }

    private int law(String name, int untold, Object... vars) {
        Sum sum = land.laws.get(name);
        if (sum == null) {
            return untold;
        }
        Map<String, Integer> map = new TreeMap<>();
        for (int i = 0; i < vars.length; i += 2) {
            map.put((String) vars[i], (Integer) vars[i + 1]);
        }
        try {
            return sum.value(map);
        } catch (DividedByZero zero) {
            return 0;
        }
    }

    private static int clamp(int v, int low, int high) {
        return v < low ? low : v > high ? high : v;
    }

    private int force(int kind, int sum, int heat, int many, int day) {
        return clamp(law("force", sum, "sum", sum, "heat", heat, "kind", kind, "many", many, "day", day), 0, 99);
    }

    private int[] forces(int[] amounts, int heat, int day) {
        int[] all = new int[3];
        for (int k = 0; k < 3; k++) {
            all[k] = force(k, sum(amounts, k), heat, many(amounts), day);
        }
        return all;
    }

    private int sum(int[] amounts, int kind) {
        int sum = 0;
        for (int f = 0; f < land.foods.size(); f++) {
            sum += amounts[f] * land.foods.get(f).brings[kind];
        }
        return sum;
    }

    private static int many(int[] amounts) {
        return Arrays.stream(amounts).sum();
    }

    private int price(int[] amounts) {
        int sum = 0;
        for (int f = 0; f < land.foods.size(); f++) {
            sum += amounts[f] * land.foods.get(f).price;
        }
        return sum;
    }

    private static int[] oneMore(int[] amounts, int food) {
        int[] more = amounts.clone();
        if (food >= 0) {
            more[food]++;
        }
        return more;
    }

    private int bound(int guest, int kind, Meal meal, int day) {
        if (meal == null) {
            return 0;
        }
        int sum = meal.forces[kind];
        int ago = day - meal.day;
        return clamp(law("binds", sum - ago, "sum", sum, "kind", kind, "palate", land.guests.get(guest).palate, "ago", ago,
                "day", day), 0, 99);
    }

    private int free(int guest, Meal meal, int day) {
        int bits = 0;
        for (int d = 0; d < land.deeds.size(); d++) {
            Deed deed = land.deeds.get(d);
            if (bound(guest, deed.force, meal, day) < deed.limit) {
                bits |= 1 << d;
            }
        }
        return bits;
    }

    private Meal meal(int dish, int day) {
        Meal meal = new Meal();
        meal.day = day;
        meal.forces = forces(land.dishes.get(dish).amounts, land.dishes.get(dish).heat, day);
        return meal;
    }

    private static int lot(int n, int seed, int which) {
        long mask = 0xffffffffL;
        long h = seed;
        for (int x : new int[] {103, which}) {
            h = ((h ^ x) * 1103515245L + 12345L) & mask;
            h = h ^ (h >> 15);
        }
        return (int) ((h >> 1) % n);
    }

    private boolean no(int i, List<?> of) {
        return i < 0 || i >= of.size();
    }

    int food(int f, int what) {
        if (no(f, land.foods) || what < 0 || what > 4) {
            return -1;
        }
        Food food = land.foods.get(f);
        return what == 0 ? now.stock[f] : what == 1 ? food.price : food.brings[what - 2];
    }

    int dish(int d, int what) {
        if (no(d, land.dishes)) {
            return -1;
        }
        Dish dish = land.dishes.get(d);
        return switch (what) {
            case 0 -> dish.heat;
            case 1 -> many(dish.amounts);
            case 2 -> price(dish.amounts);
            case 3, 4, 5 -> forces(dish.amounts, dish.heat, now.day)[what - 3];
            case 6 -> now.cookedOf[d];
            default -> -1;
        };
    }

    int amount(int d, int f) {
        return no(d, land.dishes) || no(f, land.foods) ? -1 : land.dishes.get(d).amounts[f];
    }

    int guest(int g, int what) {
        if (no(g, land.guests)) {
            return -1;
        }
        return switch (what) {
            case 0 -> land.guests.get(g).palate;
            case 1 -> now.last[g] == null ? -2 : now.day - now.last[g].day;
            case 2 -> now.meals[g];
            case 3, 4, 5 -> bound(g, what - 3, now.last[g], now.day);
            default -> -1;
        };
    }

    int deed(int d, int what) {
        if (no(d, land.deeds)) {
            return -1;
        }
        int bits = 0;
        for (int g = 0; g < land.guests.size(); g++) {
            bits |= (free(g, now.last[g], now.day) >> d & 1) << g;
        }
        return what == 0 ? land.deeds.get(d).force : what == 1 ? land.deeds.get(d).limit : what == 2 ? bits : -1;
    }

    private boolean inStore(State s, int d) {
        for (int f = 0; f < land.foods.size(); f++) {
            if (s.stock[f] < land.dishes.get(d).amounts[f]) {
                return false;
            }
        }
        return true;
    }

    /** Cooks in a state by a seed, and gives the FOOD that slipped in. */
    private int cookIn(State s, int d, int seed) {
        Dish dish = land.dishes.get(d);
        for (int f = 0; f < land.foods.size(); f++) {
            s.stock[f] -= dish.amounts[f];
        }
        s.paid += price(dish.amounts);
        int slips = clamp(law("slips", 0, "heat", dish.heat, "many", many(dish.amounts), "day", s.day), 0, 100);
        int slipped = -2;
        if (lot(100, seed, 8 * s.cooked) < slips) {
            int food = lot(land.foods.size(), seed, 8 * s.cooked + 1);
            if (s.stock[food] > 0) {
                slipped = food;
                s.stock[food]--;
            }
        }
        s.served = d;
        s.servedForces = forces(oneMore(dish.amounts, slipped), dish.heat, s.day);
        s.cooked++;
        s.cookedOf[d]++;
        return slipped;
    }

    private void keep() {
        past.push(now.copy());
        if (past.size() > 40) {
            past.removeLast();
        }
    }

    int cook(int d) {
        if (no(d, land.dishes)) {
            return -1;
        }
        if (!inStore(now, d)) {
            return -3;
        }
        keep();
        return cookIn(now, d, land.seed);
    }

    int eat(int g) {
        if (no(g, land.guests)) {
            return -1;
        }
        if (now.served < 0) {
            return -2;
        }
        keep();
        Meal meal = new Meal();
        meal.day = now.day;
        meal.forces = now.servedForces.clone();
        now.last[g] = meal;
        now.meals[g]++;
        return free(g, meal, now.day);
    }

    private void pass(State s, int n) {
        for (int i = 0; i < n; i++) {
            int[] was = s.stock.clone();
            for (int f = 0; f < was.length; f++) {
                int fill = law("fills", 0, "stock", was[f], "price", land.foods.get(f).price, "kind", f, "day", s.day);
                s.stock[f] = clamp(was[f] + clamp(fill, -9, 9), 0, 99);
            }
            s.day++;
        }
    }

    int days(int n) {
        if (n < 0 || n > 60) {
            return -1;
        }
        if (n > 0) {
            keep();
            pass(now, n);
        }
        return now.day;
    }

    boolean undo() {
        if (past.isEmpty()) {
            return false;
        }
        now = past.pop();
        return true;
    }

    int pot(int one, int two, int three, int what) {
        if (Math.min(one, Math.min(two, three)) < 0 || Math.max(one, Math.max(two, three)) > 99 || what < 0 || what > 7) {
            return -1;
        }
        int[][] best = {null};
        gather(new int[6], 0, 6, new int[] {one, two, three}, best);
        return best[0] == null ? -2 : what == 0 ? best[0][0] : what == 1 ? best[0][2] : -best[0][what + 1];
    }

    private void gather(int[] amounts, int food, int room, int[] least, int[][] best) {
        if (food == land.foods.size()) {
            for (int heat = 0; heat < 10 && room < 6; heat++) {
                int[] forces = forces(amounts, heat, now.day);
                if (forces[0] >= least[0] && forces[1] >= least[1] && forces[2] >= least[2]) {
                    int[] key = new int[9];
                    key[0] = price(amounts);
                    key[1] = many(amounts);
                    key[2] = heat;
                    for (int f = 0; f < 6; f++) {
                        key[3 + f] = -amounts[f];
                    }
                    if (best[0] == null || Arrays.compare(key, best[0]) < 0) {
                        best[0] = key;
                    }
                    return;
                }
            }
            return;
        }
        for (int n = 0; n <= room && n <= now.stock[food]; n++) {
            int[] more = amounts.clone();
            more[food] = n;
            gather(more, food + 1, room - n, least, best);
        }
    }

    int pinch(int d, int what) {
        if (no(d, land.dishes) || what < 0 || what > 1) {
            return -1;
        }
        Dish dish = land.dishes.get(d);
        int[] was = forces(dish.amounts, dish.heat, now.day);
        int most = -1;
        int which = -1;
        for (int f = 0; f < land.foods.size(); f++) {
            int[] is = forces(oneMore(dish.amounts, f), dish.heat, now.day);
            int change = Math.abs(is[0] - was[0]) + Math.abs(is[1] - was[1]) + Math.abs(is[2] - was[2]);
            if (change > most) {
                most = change;
                which = f;
            }
        }
        return what == 0 ? which : most;
    }

    private int[] freestOf(int g) {
        int[] best = {-1, -1};
        for (int d = 0; d < land.dishes.size(); d++) {
            int n = Integer.bitCount(free(g, meal(d, now.day), now.day));
            if (n > best[1]) {
                best = new int[] {d, n};
            }
        }
        return best;
    }

    int freest(int g, int what) {
        if (no(g, land.guests) || what < 0 || what > 1) {
            return -1;
        }
        return land.dishes.isEmpty() ? -2 : freestOf(g)[what];
    }

    int supper() {
        int n = 0;
        for (int g = 0; g < land.guests.size() && !land.dishes.isEmpty(); g++) {
            n += freestOf(g)[1];
        }
        return n;
    }

    int feud(int g, int deed, int other) {
        if (no(g, land.guests) || no(deed, land.deeds) || no(other, land.deeds) || deed == other) {
            return -1;
        }
        int bits = 0;
        for (int d = 0; d < land.dishes.size(); d++) {
            int free = free(g, meal(d, now.day), now.day);
            bits |= ((free >> deed ^ free >> other) & 1) << d;
        }
        return bits;
    }

    int menu(int g, int n, int set, int i) {
        if (no(g, land.guests) || n < 1 || n > 4 || set < 0 || set >= 1 << land.deeds.size() || i < -1 || i >= n) {
            return -1;
        }
        List<Integer> best = menuFrom(g, n, set, now.day, now.last[g]);
        if (best == null) {
            return i < 0 ? -2 : -3;
        }
        return i < 0 ? meals(best) : best.get(i);
    }

    private static int meals(List<Integer> menu) {
        return (int) menu.stream().filter(d -> d >= 0).count();
    }

    private List<Integer> menuFrom(int g, int n, int set, int day, Meal last) {
        if (n == 0) {
            return List.of();
        }
        List<Integer> best = null;
        for (int d = -2; d < land.dishes.size(); d++) {
            if (d == -1) {
                continue;
            }
            Meal meal = d < 0 ? last : meal(d, day);
            if ((free(g, meal, day) & set) != set) {
                continue;
            }
            List<Integer> rest = menuFrom(g, n - 1, set, day + 1, meal);
            if (rest != null) {
                List<Integer> all = new ArrayList<>();
                all.add(d);
                all.addAll(rest);
                if (best == null || meals(all) < meals(best)) {
                    best = all;
                }
            }
        }
        return best;
    }

    int often(int d) {
        if (no(d, land.dishes)) {
            return -1;
        }
        State s = now.copy();
        int n = 0;
        for (; inStore(s, d); n++) {
            cookIn(s, d, land.seed);
        }
        return n;
    }

    int hunger(int g, int d) {
        if (no(g, land.guests) || no(d, land.deeds)) {
            return -1;
        }
        for (int n = 0; n < 100; n++) {
            if ((free(g, now.last[g], now.day + n) >> d & 1) == 1) {
                return n;
            }
        }
        return -2;
    }

    int stockIn(int f, int n) {
        if (no(f, land.foods) || n < 0 || n > 60) {
            return -1;
        }
        State s = now.copy();
        pass(s, n);
        return s.stock[f];
    }

    int boundIn(int g, int force, int n) {
        return no(g, land.guests) || force < 0 || force > 2 || n < 0 || n > 60 ? -1
                : bound(g, force, now.last[g], now.day + n);
    }

    int year(int d, int force, int f, int s) {
        if (no(d, land.dishes) || force < 0 || force > 2 || f < 0 || f > 99 || s < 1 || s > 20) {
            return -1;
        }
        if (!inStore(now, d)) {
            return -2;
        }
        int n = 0;
        for (int seed = land.seed; seed < land.seed + s; seed++) {
            State trial = now.copy();
            cookIn(trial, d, seed);
            n += trial.servedForces[force] >= f ? 1 : 0;
        }
        return n;
    }

    int tell(int force, int heat, int is) {
        if (force < 0 || force > 2 || heat < 0 || heat > 9 || is < 0 || is > 99 || told.size() == 20) {
            return -1;
        }
        told.add(new Known(force, heat, is));
        return told.size() - 1;
    }

    int forget() {
        int n = told.size();
        told.clear();
        return n;
    }

    private List<Pot> suspects(int k) {
        List<Pot> all = new ArrayList<>();
        for (int d = 0; d < land.dishes.size(); d++) {
            List<int[]> ways = new ArrayList<>();
            int[] amounts = land.dishes.get(d).amounts;
            ways.add(amounts);
            for (int f = 0; f < land.foods.size(); f++) {
                ways.add(oneMore(amounts, f));
                if (amounts[f] > 0 && many(amounts) > 1) {
                    int[] less = amounts.clone();
                    less[f]--;
                    ways.add(less);
                }
            }
            for (int[] way : ways) {
                Pot pot = new Pot(d, new int[] {sum(way, 0), sum(way, 1), sum(way, 2)}, many(way));
                if (told.subList(0, k).stream().allMatch(t -> forceOf(pot, t.force, t.heat) == t.is)) {
                    all.add(pot);
                }
            }
        }
        return all;
    }

    private int forceOf(Pot pot, int force, int heat) {
        return force(force, pot.sums[force], heat, pot.many, now.day);
    }

    int blame(int k) {
        return k < 0 || k > told.size() ? -1 : suspects(k).size();
    }

    int sure(int k) {
        if (k < 0 || k > told.size()) {
            return -1;
        }
        int[] dishes = suspects(k).stream().mapToInt(Pot::dish).distinct().toArray();
        return dishes.length == 1 ? dishes[0] : -2;
    }

    int taste(int k) {
        if (k < 0 || k > told.size()) {
            return -1;
        }
        List<Pot> left = suspects(k);
        if (left.isEmpty()) {
            return -2;
        }
        int best = -1;
        int fewest = Integer.MAX_VALUE;
        for (int i = 0; i < 30; i++) {
            Map<Integer, Integer> tally = new TreeMap<>();
            for (Pot pot : left) {
                tally.merge(forceOf(pot, i / 10, i % 10), 1, Integer::sum);
            }
            int worst = tally.values().stream().mapToInt(v -> v).max().getAsInt();
            if (worst < fewest) {
                fewest = worst;
                best = i;
            }
        }
        return best;
    }

    boolean hold(int slot) {
        if (slot < 0 || slot > 2) {
            return false;
        }
        slots[slot] = now.copy();
        return true;
    }

    boolean restore(int slot) {
        if (slot < 0 || slot > 2 || slots[slot] == null) {
            return false;
        }
        now = slots[slot].copy();
        past.clear();
        return true;
    }

    int count(int what) {
        return switch (what) {
            case 0 -> land.foods.size();
            case 1 -> land.dishes.size();
            case 2 -> land.guests.size();
            case 3 -> land.deeds.size();
            case 4 -> now.day;
            case 5 -> now.paid;
            case 6 -> now.served;
            case 7, 8, 9 -> now.servedForces[what - 7];
            case 10 -> tape.length();
            case 11 -> past.size();
            case 12 -> told.size();
            case 13 -> (int) Arrays.stream(slots).filter(s -> s != null).count();
            case 14 -> now.cooked;
            case 15 -> Arrays.stream(now.meals).sum();
            default -> -1;
        };
    }
}

/** A land whose law is what is cooked; the document that it keeps to is ../shared/DOC.md. */
public final class CookedLaw {
    public static final int NONE = -1;

    private static final int NOTHING = -2;
    private static final int CANNOT = -3;

    private static final int FOODS = 6;
    private static final int DISHES = 5;
    private static final int GUESTS = 4;
    private static final int DEEDS = 6;
    private static final int FORCES = 3;
    private static final int HEATS = 10;
    private static final int IN_POT = 6;
    private static final int MOST = 99;
    private static final int DIGIT = 9;
    private static final int DAYS = 60;
    private static final int MENU_DAYS = 4;
    private static final int SEEDS = 20;
    private static final int UNDOS = 40;
    private static final int SLOTS = 3;
    private static final int TELLS = 20;

    private static final int TAPE = 2000;
    private static final int FED = 20;
    private static final int TOKENS = 400;
    private static final int IFS = 4;
    private static final int DEEP = 6;

    private static final int SYNTAX = 1;
    private static final int ROOM = 2;
    private static final int TWICE = 3;
    private static final int NO_FOOD = 4;
    private static final int WRONG = 5;

    // Kinds of TOKENS; a SIGN's kind is its own character, a word's is WORD and its place in WORDS.
    private static final int END = 0;
    private static final int BAD = 1;
    private static final int NAME = 2;
    private static final int INT = 3;
    private static final int WORD = 128;
    private static final int FOOD_TOLD = WORD;
    private static final int DISH_TOLD = WORD + 1;
    private static final int GUEST_TOLD = WORD + 2;
    private static final int DEED_TOLD = WORD + 3;
    private static final int FORCE_TOLD = WORD + 4;
    private static final int BINDS_TOLD = WORD + 5;
    private static final int FILLS_TOLD = WORD + 6;
    private static final int SLIPS_TOLD = WORD + 7;
    private static final int SEED_TOLD = WORD + 8;
    private static final int IF = WORD + 9;
    private static final int THEN = WORD + 10;
    private static final int ELSE = WORD + 11;
    private static final int FIRST_VAR = WORD + 12;
    private static final int WORD_COUNT = 21;
    private static final String WORDS =
            "food dish guest deed force binds fills slips seed if then else sum heat kind many day palate ago stock price";

    // VARs, numbered as they stand in WORDS.
    private static final int SUM = 0;
    private static final int HEAT = 1;
    private static final int KIND = 2;
    private static final int MANY = 3;
    private static final int DAY = 4;
    private static final int PALATE = 5;
    private static final int AGO = 6;
    private static final int STOCK = 7;
    private static final int PRICE = 8;
    private static final int VARS = 9;

    private final Tape tape = new Tape();
    private final Reader reader = new Reader();
    private Land land = new Land();
    private Land draft = new Land();
    private final State now = new State();
    private final State trial = new State();
    private final Past past = new Past();
    private final Slots slots = new Slots();
    private final Told told = new Told();
    private final PotSearch pots = new PotSearch();
    private final MenuSearch menus = new MenuSearch();
    private int faultPlace = NONE;

    public CookedLaw() {
    }

    // ---- The tape and the text

    public int feed(int a, int b, int c, int d, int e) {
        if (tape.length + FED > TAPE) {
            return NONE;
        }
        tape.write(a);
        tape.write(b);
        tape.write(c);
        tape.write(d);
        tape.write(e);
        return tape.length;
    }

    public int back(int n) {
        if (n < 0 || n > tape.length) {
            return NONE;
        }
        tape.length -= n;
        return tape.length;
    }

    public int read() {
        int fault = reader.parse(tape, draft);
        faultPlace = reader.placeOfFault();
        tape.length = 0;
        if (fault == 0) {
            beginDraft();
        }
        return fault;
    }

    private void beginDraft() {
        Land old = land;
        land = draft;
        draft = old;
        now.begin(land);
        past.clear();
        slots.clear();
        told.clear();
    }

    public int place() {
        return faultPlace;
    }

    // ---- What there is

    public int food(int food, int what) {
        if (!isOne(food, land.foods)) {
            return NONE;
        }
        switch (what) {
            case 0:
                return at(now.stock, food);
            case 1:
                return at(land.price, food);
            case 2:
            case 3:
            case 4:
                return land.broughtBy(food, what - 2);
            default:
                return NONE;
        }
    }

    public int dish(int dish, int what) {
        if (!isOne(dish, land.dishes)) {
            return NONE;
        }
        switch (what) {
            case 0:
                return at(land.heat, dish);
            case 1:
                return land.manyIn(dish);
            case 2:
                return land.priceOf(dish);
            case 3:
            case 4:
            case 5:
                return land.dishForce(dish, NOTHING, what - 3, now.day);
            case 6:
                return at(now.cookedOf, dish);
            default:
                return NONE;
        }
    }

    public int amount(int dish, int food) {
        if (!isOne(dish, land.dishes) || !isOne(food, land.foods)) {
            return NONE;
        }
        return land.inDish(dish, food);
    }

    public int guest(int guest, int what) {
        if (!isOne(guest, land.guests)) {
            return NONE;
        }
        switch (what) {
            case 0:
                return at(land.palate, guest);
            case 1:
                return now.hasEaten(guest) ? now.agoOf(guest) : NOTHING;
            case 2:
                return at(now.meals, guest);
            case 3:
            case 4:
            case 5:
                return now.boundOf(land, guest, what - 3, 0);
            default:
                return NONE;
        }
    }

    public int deed(int deed, int what) {
        if (!isOne(deed, land.deeds)) {
            return NONE;
        }
        switch (what) {
            case 0:
                return at(land.deedForce, deed);
            case 1:
                return at(land.deedLimit, deed);
            case 2:
                return guestsFreeTo(deed);
            default:
                return NONE;
        }
    }

    private int guestsFreeTo(int deed) {
        int bits = 0;
        for (int guest = 0; guest < land.guests; guest++) {
            if (hasBit(now.freeOf(land, guest, 0), deed)) {
                bits |= 1 << guest;
            }
        }
        return bits;
    }

    // ---- By hand

    public int cook(int dish) {
        if (!isOne(dish, land.dishes)) {
            return NONE;
        }
        if (!now.inStore(land, dish)) {
            return CANNOT;
        }
        past.keep(now);
        return now.cookOne(land, dish);
    }

    public int eat(int guest) {
        if (!isOne(guest, land.guests)) {
            return NONE;
        }
        if (now.served < 0) {
            return NOTHING;
        }
        past.keep(now);
        now.eatServed(guest);
        return now.freeOf(land, guest, 0);
    }

    public int days(int n) {
        if (n < 0 || n > DAYS) {
            return NONE;
        }
        if (n > 0) {
            past.keep(now);
            now.passDays(land, n);
        }
        return now.day;
    }

    public boolean undo() {
        return past.takeBack(now);
    }

    // ---- What would be

    public int pot(int one, int two, int three, int what) {
        if (!isOne(one, MOST + 1) || !isOne(two, MOST + 1) || !isOne(three, MOST + 1) || !isOne(what, 2 + FOODS)) {
            return NONE;
        }
        if (!pots.find(land, now, one, two, three)) {
            return NOTHING;
        }
        if (what == 0) {
            return pots.bestPrice;
        }
        return what == 1 ? pots.bestHeat : at(pots.best, what - 2);
    }

    public int pinch(int dish, int what) {
        if (!isOne(dish, land.dishes) || !isOne(what, 2)) {
            return NONE;
        }
        int most = NONE;
        int first = NONE;
        for (int food = 0; food < land.foods; food++) {
            int change = changeBy(dish, food);
            if (change > most) {
                most = change;
                first = food;
            }
        }
        return what == 0 ? first : most;
    }

    private int changeBy(int dish, int food) {
        int change = 0;
        for (int kind = 0; kind < FORCES; kind++) {
            int with = land.dishForce(dish, food, kind, now.day);
            int without = land.dishForce(dish, NOTHING, kind, now.day);
            change += Math.abs(with - without);
        }
        return change;
    }

    public int freest(int guest, int what) {
        if (!isOne(guest, land.guests) || !isOne(what, 2)) {
            return NONE;
        }
        if (land.dishes == 0) {
            return NOTHING;
        }
        int first = freestDish(guest);
        return what == 0 ? first : Integer.bitCount(freeBehind(guest, first));
    }

    private int freestDish(int guest) {
        int most = NONE;
        int first = NONE;
        for (int dish = 0; dish < land.dishes; dish++) {
            int free = Integer.bitCount(freeBehind(guest, dish));
            if (free > most) {
                most = free;
                first = dish;
            }
        }
        return first;
    }

    private int freeBehind(int guest, int dish) {
        return land.freeByDish(guest, dish, now.day, 0);
    }

    public int supper() {
        if (land.dishes == 0) {
            return 0;
        }
        int free = 0;
        for (int guest = 0; guest < land.guests; guest++) {
            free += Integer.bitCount(freeBehind(guest, freestDish(guest)));
        }
        return free;
    }

    public int feud(int guest, int deed, int other) {
        if (!isOne(guest, land.guests) || !isOne(deed, land.deeds) || !isOne(other, land.deeds) || deed == other) {
            return NONE;
        }
        int bits = 0;
        for (int dish = 0; dish < land.dishes; dish++) {
            int free = freeBehind(guest, dish);
            if (hasBit(free, deed) != hasBit(free, other)) {
                bits |= 1 << dish;
            }
        }
        return bits;
    }

    public int menu(int guest, int n, int set, int i) {
        if (!isOne(guest, land.guests) || n < 1 || n > MENU_DAYS || !isOne(set, 1 << land.deeds)) {
            return NONE;
        }
        if (i < NONE || i >= n) {
            return NONE;
        }
        if (!menus.find(land, now, guest, n, set)) {
            return i == NONE ? NOTHING : CANNOT;
        }
        if (i == NONE) {
            return menus.fewest;
        }
        int choice = at(menus.best, i);
        return choice == 0 ? NOTHING : choice - 1;
    }

    public int often(int dish) {
        if (!isOne(dish, land.dishes)) {
            return NONE;
        }
        trial.copyFrom(now);
        int times = 0;
        // Each time takes one FOOD at least, of which at most MOST are in store.
        while (times <= MOST && trial.inStore(land, dish)) {
            trial.cookOne(land, dish);
            times++;
        }
        return times;
    }

    public int hunger(int guest, int deed) {
        if (!isOne(guest, land.guests) || !isOne(deed, land.deeds)) {
            return NONE;
        }
        int kind = at(land.deedForce, deed);
        for (int ahead = 0; ahead <= MOST; ahead++) {
            if (now.boundOf(land, guest, kind, ahead) < at(land.deedLimit, deed)) {
                return ahead;
            }
        }
        return NOTHING;
    }

    public int stockIn(int food, int n) {
        if (!isOne(food, land.foods) || n < 0 || n > DAYS) {
            return NONE;
        }
        trial.copyFrom(now);
        trial.passDays(land, n);
        return at(trial.stock, food);
    }

    public int boundIn(int guest, int force, int n) {
        if (!isOne(guest, land.guests) || !isOne(force, FORCES) || n < 0 || n > DAYS) {
            return NONE;
        }
        return now.boundOf(land, guest, force, n);
    }

    public int year(int dish, int force, int f, int s) {
        if (!isOne(dish, land.dishes) || !isOne(force, FORCES) || !isOne(f, MOST + 1) || s < 1 || s > SEEDS) {
            return NONE;
        }
        if (!now.inStore(land, dish)) {
            return NOTHING;
        }
        int times = 0;
        for (int more = 0; more < s; more++) {
            int slipped = now.slipInto(land, dish, land.seed + more);
            if (land.dishForce(dish, slipped, force, now.day) >= f) {
                times++;
            }
        }
        return times;
    }

    // ---- What is TOLD

    public int tell(int force, int heat, int is) {
        if (!isOne(force, FORCES) || !isOne(heat, HEATS) || !isOne(is, MOST + 1)) {
            return NONE;
        }
        return told.add(force, heat, is);
    }

    public int forget() {
        int were = told.size;
        told.clear();
        return were;
    }

    public int blame(int k) {
        if (!isOne(k, told.size + 1)) {
            return NONE;
        }
        told.gather(land, now.day, k);
        return told.left;
    }

    public int sure(int k) {
        if (!isOne(k, told.size + 1)) {
            return NONE;
        }
        told.gather(land, now.day, k);
        return told.onlyDish();
    }

    public int taste(int k) {
        if (!isOne(k, told.size + 1)) {
            return NONE;
        }
        told.gather(land, now.day, k);
        return told.nextTaste(land, now.day);
    }

    // ---- Held, gone on from, counted

    public boolean hold(int slot) {
        return slots.keep(slot, now);
    }

    public boolean restore(int slot) {
        if (!slots.bring(slot, now)) {
            return false;
        }
        past.clear();
        return true;
    }

    public int count(int what) {
        switch (what) {
            case 0:
                return land.foods;
            case 1:
                return land.dishes;
            case 2:
                return land.guests;
            case 3:
                return land.deeds;
            case 4:
                return now.day;
            case 5:
                return now.paid;
            case 6:
                return now.served;
            case 7:
            case 8:
            case 9:
                return at(now.servedForces, what - 7);
            case 10:
                return tape.length;
            case 11:
                return past.size;
            case 12:
                return told.size;
            case 13:
                return slots.full();
            case 14:
                return now.cooked;
            case 15:
                return now.allMeals();
            default:
                return NONE;
        }
    }

    // ---- Small helps

    private static boolean isOne(int i, int count) {
        return i >= 0 && i < count;
    }

    private static boolean hasBit(int bits, int i) {
        return (bits >> i & 1) != 0;
    }

    private static int within(int value, int least, int most) {
        return Math.max(least, Math.min(most, value));
    }

    private static int at(int[] row, int i) {
        return i >= 0 && i < row.length ? row[i] : 0;
    }

    private static void put(int[] row, int i, int value) {
        if (i >= 0 && i < row.length) {
            row[i] = value;
        }
    }

    private static void copyRow(int[] from, int[] to) {
        for (int i = 0; i < from.length && i < to.length; i++) {
            to[i] = from[i];
        }
    }

    private static void wipe(int[] row) {
        for (int i = 0; i < row.length; i++) {
            row[i] = 0;
        }
    }

    /** The bytes that have come and were not read yet. */
    private static final class Tape {
        private final int[] bytes = new int[TAPE];
        private int length;

        void write(int word) {
            for (int down = 24; down >= 0; down -= 8) {
                put(bytes, length, word >>> down & 255);
                length++;
            }
        }

        /** The byte there, or NONE behind the end. */
        int byteAt(int i) {
            return i >= 0 && i < length && i < bytes.length ? bytes[i] : NONE;
        }
    }

    /** A tape cut into TOKENS; the last one kept is the END, a BAD one, or the first that is too many. */
    private static final class Tokens {
        private static final int LONGEST_NAME = 8;
        private static final int LONGEST_INT = 4;

        private final long[] words = new long[WORD_COUNT];
        private final int[] kinds = new int[TOKENS + 1];
        private final int[] places = new int[TOKENS + 1];
        private final long[] values = new long[TOKENS + 1];

        Tokens() {
            int word = 0;
            for (int i = 0; i < WORDS.length(); i++) {
                int c = WORDS.charAt(i);
                if (c == ' ') {
                    word++;
                } else if (word < words.length) {
                    words[word] = withLetter(words[word], c);
                }
            }
        }

        /** Eight letters of five bits each: names are compared as numbers. */
        private static long withLetter(long name, int c) {
            return name * 32 + (c - 'a' + 1);
        }

        void cut(Tape tape) {
            int next = 0;
            for (int i = 0; i < kinds.length; i++) {
                int from = behindBlanks(tape, next);
                next = cutOne(tape, from, i);
                put(places, i, from);
                if (kinds[i] == END || kinds[i] == BAD) {
                    break;
                }
            }
        }

        private static int behindBlanks(Tape tape, int from) {
            int i = from;
            while (i < tape.length && isBlank(tape.byteAt(i))) {
                i++;
            }
            return i;
        }

        private static boolean isBlank(int c) {
            return c == 9 || c == 10 || c == 13 || c == 32;
        }

        private int cutOne(Tape tape, int from, int i) {
            int c = tape.byteAt(from);
            if (c >= 'a' && c <= 'z') {
                return cutLetters(tape, from, i);
            }
            if (c >= '0' && c <= '9') {
                return cutDigits(tape, from, i);
            }
            if (c < 0) {
                set(i, END, 0);
            } else {
                set(i, isSign(c) ? c : BAD, 0);
            }
            return from + 1;
        }

        private static boolean isSign(int c) {
            return c == ';' || c == '=' || c == '+' || c == '-' || c == '*' || c == '/' || c == '<' || c == '('
                    || c == ')';
        }

        private int cutLetters(Tape tape, int from, int i) {
            long name = 0;
            int end = from;
            while (end < tape.length && tape.byteAt(end) >= 'a' && tape.byteAt(end) <= 'z') {
                name = withLetter(name, tape.byteAt(end));
                end++;
            }
            set(i, end - from > LONGEST_NAME ? BAD : kindOf(name), name);
            return end;
        }

        private int kindOf(long name) {
            for (int word = 0; word < words.length; word++) {
                if (words[word] == name) {
                    return WORD + word;
                }
            }
            return NAME;
        }

        private int cutDigits(Tape tape, int from, int i) {
            long number = 0;
            int end = from;
            while (end < tape.length && tape.byteAt(end) >= '0' && tape.byteAt(end) <= '9') {
                number = number * 10 + (tape.byteAt(end) - '0');
                end++;
            }
            set(i, end - from > LONGEST_INT ? BAD : INT, number);
            return end;
        }

        private void set(int i, int kind, long value) {
            if (i >= 0 && i < kinds.length && i < values.length) {
                kinds[i] = kind;
                values[i] = value;
            }
        }

        long valueAt(int i) {
            return i >= 0 && i < values.length ? values[i] : 0;
        }
    }

    /** Reads a text into a land; once a fault has come, nothing more is taken. */
    private static final class Reader {
        private static final int NAMES = FOODS + DISHES + GUESTS + DEEDS;
        private static final int HELD = 32;

        private final Tokens tokens = new Tokens();
        private int next;
        private int fault;
        private int faultAt;
        private int lateFault;
        private int lateAt;
        private final long[] names = new long[NAMES];
        private final int[] foodOfName = new int[NAMES];
        private int nameCount;
        private final int[] held = new int[HELD];
        private int heldCount;
        private int open;

        int parse(Tape tape, Land land) {
            tokens.cut(tape);
            land.clear();
            next = 0;
            fault = 0;
            lateFault = 0;
            nameCount = 0;
            for (int tells = 0; tells <= TOKENS && fault == 0 && !is(END); tells++) {
                switch (at(tokens.kinds, next)) {
                    case FOOD_TOLD:
                        takeFood(land);
                        break;
                    case DISH_TOLD:
                        takeDish(land);
                        break;
                    case GUEST_TOLD:
                        takeGuest(land);
                        break;
                    case DEED_TOLD:
                        takeDeed(land);
                        break;
                    case FORCE_TOLD:
                        takeLaw(land.force);
                        break;
                    case BINDS_TOLD:
                        takeLaw(land.binds);
                        break;
                    case FILLS_TOLD:
                        takeLaw(land.fills);
                        break;
                    case SLIPS_TOLD:
                        takeLaw(land.slips);
                        break;
                    case SEED_TOLD:
                        takeSeed(land);
                        break;
                    default:
                        stop(SYNTAX);
                        break;
                }
            }
            if (fault == 0) {
                fault = lateFault;
                faultAt = lateAt;
            }
            return fault;
        }

        int placeOfFault() {
            return fault == 0 ? NONE : at(tokens.places, faultAt);
        }

        private boolean is(int kind) {
            return at(tokens.kinds, next) == kind;
        }

        private void stop(int why) {
            if (fault == 0) {
                fault = why;
                faultAt = next;
            }
        }

        /** Later than SYNTAX and ROOM: it counts only if the whole text has neither. */
        private void stopLate(int why) {
            if (lateFault == 0) {
                lateFault = why;
                lateAt = next;
            }
        }

        private void take() {
            if (fault != 0) {
                return;
            }
            if (next >= TOKENS) {
                stop(ROOM);
            } else {
                next++;
            }
        }

        private void need(int kind) {
            if (is(kind)) {
                take();
            } else {
                stop(SYNTAX);
            }
        }

        private int takeInt(int most) {
            int number = (int) tokens.valueAt(next);
            if (is(INT) && number > most) {
                stopLate(WRONG);
            }
            need(INT);
            return number;
        }

        /** A NAME is told; food is the FOOD that it is of, or NONE. */
        private void takeNewName(int food) {
            if (is(NAME)) {
                long name = tokens.valueAt(next);
                if (indexOf(name) >= 0) {
                    stopLate(TWICE);
                } else if (nameCount >= 0 && nameCount < names.length && nameCount < foodOfName.length) {
                    names[nameCount] = name;
                    foodOfName[nameCount] = food;
                    nameCount++;
                }
            }
            need(NAME);
        }

        private int indexOf(long name) {
            for (int i = 0; i < nameCount && i < names.length; i++) {
                if (names[i] == name) {
                    return i;
                }
            }
            return NONE;
        }

        private void takeFood(Land land) {
            int food = land.foods;
            if (food >= FOODS) {
                stop(ROOM);
                return;
            }
            take();
            takeNewName(food);
            put(land.stock, food, takeInt(MOST));
            put(land.price, food, takeInt(DIGIT));
            for (int kind = 0; kind < FORCES; kind++) {
                put(land.brings, food * FORCES + kind, takeInt(DIGIT));
            }
            need(';');
            land.foods = food + 1;
        }

        private void takeDish(Land land) {
            int dish = land.dishes;
            if (dish >= DISHES) {
                stop(ROOM);
                return;
            }
            take();
            takeNewName(NONE);
            put(land.heat, dish, takeInt(DIGIT));
            takeIngredient(land, dish);
            for (int many = 1; many <= IN_POT && fault == 0 && is(NAME); many++) {
                if (many == IN_POT) {
                    stop(ROOM);
                } else {
                    takeIngredient(land, dish);
                }
            }
            need(';');
            land.dishes = dish + 1;
        }

        private void takeIngredient(Land land, int dish) {
            if (is(NAME)) {
                int index = indexOf(tokens.valueAt(next));
                int food = index < 0 ? NONE : at(foodOfName, index);
                if (food < 0) {
                    stopLate(NO_FOOD);
                } else {
                    put(land.recipes, dish * FOODS + food, land.inDish(dish, food) + 1);
                }
            }
            need(NAME);
        }

        private void takeGuest(Land land) {
            int guest = land.guests;
            if (guest >= GUESTS) {
                stop(ROOM);
                return;
            }
            take();
            takeNewName(NONE);
            put(land.palate, guest, takeInt(DIGIT));
            need(';');
            land.guests = guest + 1;
        }

        private void takeDeed(Land land) {
            int deed = land.deeds;
            if (deed >= DEEDS) {
                stop(ROOM);
                return;
            }
            take();
            takeNewName(NONE);
            put(land.deedForce, deed, takeInt(FORCES - 1));
            put(land.deedLimit, deed, takeInt(MOST));
            need(';');
            land.deeds = deed + 1;
        }

        private void takeSeed(Land land) {
            take();
            land.seed = takeInt(9999);
            need(';');
        }

        private void takeLaw(Law law) {
            law.clear();
            take();
            need('=');
            for (int ifs = 0; ifs <= IFS && fault == 0 && is(IF); ifs++) {
                if (ifs == IFS) {
                    stop(ROOM);
                    break;
                }
                take();
                takeSum(law);
                need('<');
                takeSum(law);
                need(THEN);
                int gap = law.openIf();
                takeSum(law);
                need(ELSE);
                law.closeIf(gap);
            }
            takeSum(law);
            need(';');
        }

        /** An E, put behind the law with each sign behind its two sides, as Law.value wants it. */
        private void takeSum(Law law) {
            open = 0;
            heldCount = 0;
            boolean unitWanted = true;
            for (int taken = 0; taken <= TOKENS && fault == 0; taken++) {
                if (unitWanted) {
                    unitWanted = takeUnit(law);
                } else if (rank(at(tokens.kinds, next)) > 0) {
                    takeSign(law);
                    unitWanted = true;
                } else if (open > 0) {
                    takeClose(law);
                } else {
                    break;
                }
            }
            layHeld(law, 1);
        }

        /** True if a UNIT is still wanted, behind a '('. */
        private boolean takeUnit(Law law) {
            int kind = at(tokens.kinds, next);
            if (kind == '(') {
                if (open >= DEEP) {
                    stop(ROOM);
                    return true;
                }
                open++;
                holdSign('(');
                take();
                return true;
            }
            if (kind == INT) {
                law.add((int) tokens.valueAt(next));
                take();
            } else if (isOne(kind - FIRST_VAR, VARS)) {
                law.add(Law.VAR + kind - FIRST_VAR);
                take();
            } else {
                stop(SYNTAX);
            }
            return false;
        }

        private void takeSign(Law law) {
            int sign = at(tokens.kinds, next);
            layHeld(law, rank(sign));
            holdSign(sign);
            take();
        }

        private void takeClose(Law law) {
            if (!is(')')) {
                stop(SYNTAX);
                return;
            }
            layHeld(law, 1);
            heldCount--;
            open--;
            take();
        }

        private void holdSign(int sign) {
            put(held, heldCount, sign);
            heldCount++;
        }

        /** Held signs that bind as tightly as rank or tighter go behind the law, down to a '('. */
        private void layHeld(Law law, int rank) {
            while (heldCount > 0 && rank(at(held, heldCount - 1)) >= rank) {
                heldCount--;
                law.add(Law.SIGN + at(held, heldCount));
            }
        }

        private static int rank(int sign) {
            if (sign == '*' || sign == '/') {
                return 2;
            }
            return sign == '+' || sign == '-' ? 1 : 0;
        }
    }

    /** A LAW, each sign behind its two sides; of a law that was not told there is nothing. */
    private static final class Law {
        // What stands in the code: numbers below VAR, VARs below SIGN, then signs by their characters.
        private static final int VAR = 10000;
        private static final int SIGN = 20000;
        private static final int UNLESS = SIGN + '<';
        private static final int STOP = SIGN + ';';
        private static final int DEEPEST = 32;

        private final int[] code = new int[TOKENS];
        private int length;
        private final int[] vars = new int[VARS];
        private final int[] stack = new int[DEEPEST];

        void clear() {
            length = 0;
        }

        boolean isTold() {
            return length > 0;
        }

        boolean looksAt(int which) {
            for (int i = 0; i < length && i < code.length; i++) {
                if (code[i] == VAR + which) {
                    return true;
                }
            }
            return false;
        }

        void let(int which, int value) {
            put(vars, which, value);
        }

        void add(int cell) {
            if (length >= 0 && length < code.length) {
                code[length] = cell;
                length++;
            }
        }

        /** Behind both sides of a '<': the gap will tell where to go on if it does not hold. */
        int openIf() {
            add(UNLESS);
            add(0);
            return length - 1;
        }

        void closeIf(int gap) {
            add(STOP);
            put(code, gap, length);
        }

        /** 0 as soon as something that is looked at is divided by 0. */
        int value() {
            int top = 0;
            int i = 0;
            for (int steps = 0; steps < TOKENS && i >= 0 && i < length && i < code.length; steps++) {
                int cell = code[i];
                i++;
                if (cell == STOP) {
                    break;
                }
                if (cell < SIGN) {
                    if (top < 0 || top >= stack.length) {
                        return 0;
                    }
                    stack[top] = cell < VAR ? cell : at(vars, cell - VAR);
                    top++;
                    continue;
                }
                if (top < 2 || top > stack.length) {
                    return 0;
                }
                int left = stack[top - 2];
                int right = stack[top - 1];
                top -= 2;
                if (cell == UNLESS) {
                    i = left < right ? i + 1 : at(code, i);
                    continue;
                }
                if (cell == SIGN + '/' && right == 0) {
                    return 0;
                }
                stack[top] = reckon(cell - SIGN, left, right);
                top++;
            }
            return at(stack, 0);
        }

        private static int reckon(int sign, int left, int right) {
            switch (sign) {
                case '+':
                    return left + right;
                case '-':
                    return left - right;
                case '*':
                    return left * right;
                default:
                    return right == 0 ? 0 : left / right;
            }
        }
    }

    /** What a text tells: it stays as it is until the next text. */
    private static final class Land {
        private int foods;
        private int dishes;
        private int guests;
        private int deeds;
        private int seed;
        private final int[] stock = new int[FOODS];
        private final int[] price = new int[FOODS];
        private final int[] brings = new int[FOODS * FORCES];
        private final int[] heat = new int[DISHES];
        private final int[] recipes = new int[DISHES * FOODS];
        private final int[] palate = new int[GUESTS];
        private final int[] deedForce = new int[DEEDS];
        private final int[] deedLimit = new int[DEEDS];
        private final Law force = new Law();
        private final Law binds = new Law();
        private final Law fills = new Law();
        private final Law slips = new Law();
        private final int[] eaten = new int[FORCES];

        void clear() {
            foods = 0;
            dishes = 0;
            guests = 0;
            deeds = 0;
            seed = 0;
            wipe(recipes);
            force.clear();
            binds.clear();
            fills.clear();
            slips.clear();
        }

        int broughtBy(int food, int kind) {
            return at(brings, food * FORCES + kind);
        }

        int inDish(int dish, int food) {
            return at(recipes, dish * FOODS + food);
        }

        int manyIn(int dish) {
            int many = 0;
            for (int food = 0; food < foods; food++) {
                many += inDish(dish, food);
            }
            return many;
        }

        int priceOf(int dish) {
            int all = 0;
            for (int food = 0; food < foods; food++) {
                all += inDish(dish, food) * at(price, food);
            }
            return all;
        }

        int sumOf(int dish, int kind) {
            int sum = 0;
            for (int food = 0; food < foods; food++) {
                sum += inDish(dish, food) * broughtBy(food, kind);
            }
            return sum;
        }

        /** A FORCE of a POT. */
        int potForce(int kind, int sum, int potHeat, int many, int day) {
            if (!force.isTold()) {
                return within(sum, 0, MOST);
            }
            force.let(SUM, sum);
            force.let(HEAT, potHeat);
            force.let(KIND, kind);
            force.let(MANY, many);
            force.let(DAY, day);
            return within(force.value(), 0, MOST);
        }

        /** A FORCE of a DISH with one more of a FOOD, or as it is told if that is NOTHING. */
        int dishForce(int dish, int more, int kind, int day) {
            int sum = sumOf(dish, kind);
            int many = manyIn(dish);
            if (more >= 0) {
                sum += broughtBy(more, kind);
                many++;
            }
            return potForce(kind, sum, at(heat, dish), many, day);
        }

        /** By how much a GUEST is BOUND by a FORCE of what it ate. */
        int boundBy(int guest, int kind, int ate, int ago, int day) {
            if (!binds.isTold()) {
                return within(ate - ago, 0, MOST);
            }
            binds.let(SUM, ate);
            binds.let(KIND, kind);
            binds.let(PALATE, at(palate, guest));
            binds.let(AGO, ago);
            binds.let(DAY, day);
            return within(binds.value(), 0, MOST);
        }

        /** DEEDS of a FORCE (bits) that are free for who is BOUND by it by so much. */
        int freeUnder(int kind, int bound) {
            int bits = 0;
            for (int deed = 0; deed < deeds; deed++) {
                if (at(deedForce, deed) == kind && bound < at(deedLimit, deed)) {
                    bits |= 1 << deed;
                }
            }
            return bits;
        }

        /** DEEDS (bits) that are free for a GUEST, so many days behind eating a DISH on a day. */
        int freeByDish(int guest, int dish, int day, int ago) {
            for (int kind = 0; kind < FORCES; kind++) {
                put(eaten, kind, dishForce(dish, NOTHING, kind, day));
            }
            int bits = 0;
            for (int kind = 0; kind < FORCES; kind++) {
                bits |= freeUnder(kind, boundBy(guest, kind, at(eaten, kind), ago, day + ago));
            }
            return bits;
        }

        int fillOf(int food, int inStore, int day) {
            if (!fills.isTold()) {
                return 0;
            }
            fills.let(STOCK, inStore);
            fills.let(PRICE, at(price, food));
            fills.let(KIND, food);
            fills.let(DAY, day);
            return within(fills.value(), -DIGIT, DIGIT);
        }

        int slipsOf(int dish, int day) {
            if (!slips.isTold()) {
                return 0;
            }
            slips.let(HEAT, at(heat, dish));
            slips.let(MANY, manyIn(dish));
            slips.let(DAY, day);
            return within(slips.value(), 0, 100);
        }

        /** LOT n of a SEED and a which. */
        static int lot(int n, int ofSeed, int which) {
            int h = stirred(stirred(ofSeed, 103), which);
            return n > 0 ? (h >>> 1) % n : 0;
        }

        private static int stirred(int h, int with) {
            int mixed = (h ^ with) * 1103515245 + 12345;
            return mixed ^ mixed >>> 15;
        }
    }

    /** All that goes on: what undo, hold and restore bring back. */
    private static final class State {
        private int day;
        private int paid;
        private int cooked;
        private int served = NOTHING;
        private final int[] servedForces = new int[FORCES];
        private final int[] stock = new int[FOODS];
        private final int[] cookedOf = new int[DISHES];
        private final int[] meals = new int[GUESTS];
        private final int[] ateOn = new int[GUESTS];
        private final int[] ate = new int[GUESTS * FORCES];

        void begin(Land land) {
            day = 0;
            paid = 0;
            cooked = 0;
            served = NOTHING;
            wipe(servedForces);
            wipe(cookedOf);
            wipe(meals);
            wipe(ateOn);
            wipe(ate);
            for (int food = 0; food < FOODS; food++) {
                put(stock, food, food < land.foods ? at(land.stock, food) : 0);
            }
        }

        void copyFrom(State other) {
            day = other.day;
            paid = other.paid;
            cooked = other.cooked;
            served = other.served;
            copyRow(other.servedForces, servedForces);
            copyRow(other.stock, stock);
            copyRow(other.cookedOf, cookedOf);
            copyRow(other.meals, meals);
            copyRow(other.ateOn, ateOn);
            copyRow(other.ate, ate);
        }

        boolean inStore(Land land, int dish) {
            for (int food = 0; food < land.foods; food++) {
                if (at(stock, food) < land.inDish(dish, food)) {
                    return false;
                }
            }
            return true;
        }

        /** The FOOD that slips in if a DISH that is in store is COOKED now by a SEED, or NOTHING. */
        int slipInto(Land land, int dish, int seed) {
            int which = 8 * cooked;
            if (Land.lot(100, seed, which) >= land.slipsOf(dish, day)) {
                return NOTHING;
            }
            int food = Land.lot(land.foods, seed, which + 1);
            return at(stock, food) > land.inDish(dish, food) ? food : NOTHING;
        }

        /** A DISH that is in store is COOKED: the FOOD that slipped in, or NOTHING. */
        int cookOne(Land land, int dish) {
            int slipped = slipInto(land, dish, land.seed);
            for (int food = 0; food < land.foods; food++) {
                int goes = land.inDish(dish, food) + (food == slipped ? 1 : 0);
                put(stock, food, at(stock, food) - goes);
            }
            for (int kind = 0; kind < FORCES; kind++) {
                put(servedForces, kind, land.dishForce(dish, slipped, kind, day));
            }
            paid += land.priceOf(dish);
            served = dish;
            cooked++;
            put(cookedOf, dish, at(cookedOf, dish) + 1);
            return slipped;
        }

        void eatServed(int guest) {
            for (int kind = 0; kind < FORCES; kind++) {
                put(ate, guest * FORCES + kind, at(servedForces, kind));
            }
            put(ateOn, guest, day);
            put(meals, guest, at(meals, guest) + 1);
        }

        void passDays(Land land, int n) {
            for (int i = 0; i < n; i++) {
                for (int food = 0; food < land.foods; food++) {
                    int was = at(stock, food);
                    put(stock, food, within(was + land.fillOf(food, was, day), 0, MOST));
                }
                day++;
            }
        }

        boolean hasEaten(int guest) {
            return at(meals, guest) > 0;
        }

        int agoOf(int guest) {
            return day - at(ateOn, guest);
        }

        /** By how much a GUEST who eats nothing more is BOUND so many days ahead. */
        int boundOf(Land land, int guest, int kind, int ahead) {
            if (!hasEaten(guest)) {
                return 0;
            }
            return land.boundBy(guest, kind, at(ate, guest * FORCES + kind), agoOf(guest) + ahead, day + ahead);
        }

        /** DEEDS (bits) that are free for a GUEST who eats nothing more, so many days ahead. */
        int freeOf(Land land, int guest, int ahead) {
            int bits = 0;
            for (int kind = 0; kind < FORCES; kind++) {
                bits |= land.freeUnder(kind, boundOf(land, guest, kind, ahead));
            }
            return bits;
        }

        int allMeals() {
            int all = 0;
            for (int guest = 0; guest < GUESTS; guest++) {
                all += at(meals, guest);
            }
            return all;
        }
    }

    /** How it was ahead of the last things done: a ring, so that the oldest makes room. */
    private static final class Past {
        private final State[] states = new State[UNDOS];
        private int next;
        private int size;

        Past() {
            for (int i = 0; i < states.length; i++) {
                states[i] = new State();
            }
        }

        void clear() {
            next = 0;
            size = 0;
        }

        void keep(State now) {
            if (next < 0 || next >= states.length || states[next] == null) {
                return;
            }
            states[next].copyFrom(now);
            next = next + 1 < UNDOS ? next + 1 : 0;
            size = Math.min(UNDOS, size + 1);
        }

        boolean takeBack(State now) {
            int last = next > 0 ? next - 1 : UNDOS - 1;
            if (size == 0 || last >= states.length || states[last] == null) {
                return false;
            }
            now.copyFrom(states[last]);
            next = last;
            size--;
            return true;
        }
    }

    private static final class Slots {
        private final State[] states = new State[SLOTS];
        private int fullBits;

        Slots() {
            for (int i = 0; i < states.length; i++) {
                states[i] = new State();
            }
        }

        void clear() {
            fullBits = 0;
        }

        boolean keep(int slot, State now) {
            if (slot < 0 || slot >= states.length || states[slot] == null) {
                return false;
            }
            states[slot].copyFrom(now);
            fullBits |= 1 << slot;
            return true;
        }

        boolean bring(int slot, State now) {
            if (slot < 0 || slot >= states.length || states[slot] == null || !hasBit(fullBits, slot)) {
                return false;
            }
            now.copyFrom(states[slot]);
            return true;
        }

        int full() {
            return Integer.bitCount(fullBits);
        }
    }

    /** The cheapest POT. Pots are gone through with most of FOOD 0 first, so that of alike ones the first stays. */
    private static final class PotSearch {
        // Ways to put 0 to 6 of 6 FOODS into a pot.
        private static final int WAYS = 924;

        private final int[] least = new int[FORCES];
        private final int[] amounts = new int[FOODS];
        private final int[] sums = new int[FORCES];
        private int many;
        private int price;
        private final int[] best = new int[FOODS];
        private int bestPrice;
        private int bestMany;
        private int bestHeat;
        private boolean found;
        private int heats;

        boolean find(Land land, State now, int one, int two, int three) {
            put(least, 0, one);
            put(least, 1, two);
            put(least, 2, three);
            found = false;
            // A law that does not look at the HEAT needs no other than the least.
            heats = land.force.looksAt(HEAT) ? HEATS : 1;
            fillFrom(now, 0, IN_POT);
            for (int way = 0; way < WAYS; way++) {
                weigh(land);
                if (many == 0) {
                    break;
                }
                tryHeats(land, now.day);
                stepDown(now);
            }
            return found;
        }

        private void fillFrom(State now, int from, int room) {
            int left = room;
            for (int food = from; food < FOODS; food++) {
                int here = Math.min(left, at(now.stock, food));
                put(amounts, food, here);
                left -= here;
            }
        }

        /** To the next pot: one less of the last FOOD in it, and as much as can be of those behind. */
        private void stepDown(State now) {
            for (int food = FOODS - 1; food >= 0; food--) {
                int here = at(amounts, food);
                if (here > 0) {
                    put(amounts, food, here - 1);
                    fillFrom(now, food + 1, IN_POT - many + 1);
                    return;
                }
            }
        }

        private void weigh(Land land) {
            wipe(sums);
            many = 0;
            price = 0;
            for (int food = 0; food < FOODS; food++) {
                int here = at(amounts, food);
                if (here > 0) {
                    many += here;
                    price += here * at(land.price, food);
                    for (int kind = 0; kind < FORCES; kind++) {
                        put(sums, kind, at(sums, kind) + here * land.broughtBy(food, kind));
                    }
                }
            }
        }

        private void tryHeats(Land land, int day) {
            if (found && (price > bestPrice || price == bestPrice && many > bestMany)) {
                return;
            }
            boolean alike = found && price == bestPrice && many == bestMany;
            int below = alike ? Math.min(bestHeat, heats) : heats;
            for (int heat = 0; heat < below; heat++) {
                if (isEnough(land, heat, day)) {
                    found = true;
                    bestPrice = price;
                    bestMany = many;
                    bestHeat = heat;
                    copyRow(amounts, best);
                    return;
                }
            }
        }

        private boolean isEnough(Land land, int heat, int day) {
            for (int kind = 0; kind < FORCES; kind++) {
                int needed = at(least, kind);
                if (needed > 0 && land.potForce(kind, at(sums, kind), heat, many, day) < needed) {
                    return false;
                }
            }
            return true;
        }
    }

    /** The MENU. A day's choice is 0 for no meal, else the DISH and 1; choices are gone through in their order. */
    private static final class MenuSearch {
        // Choices of 6 on each of 4 days.
        private static final int WAYS = 1296;

        private final boolean[] unfed = new boolean[MENU_DAYS];
        private final boolean[] fed = new boolean[MENU_DAYS * MENU_DAYS * DISHES];
        private final int[] choices = new int[MENU_DAYS];
        private final int[] best = new int[MENU_DAYS];
        private int fewest;

        boolean find(Land land, State now, int guest, int n, int set) {
            lookUnfed(land, now, guest, set);
            lookFed(land, now.day, guest, n, set);
            wipe(choices);
            fewest = MENU_DAYS + 1;
            for (int way = 0; way < WAYS; way++) {
                int meals = mealsIfAllFree(n);
                if (meals >= 0 && meals < fewest) {
                    fewest = meals;
                    copyRow(choices, best);
                }
                if (!step(n, land.dishes)) {
                    break;
                }
            }
            return fewest <= MENU_DAYS;
        }

        private void lookUnfed(Land land, State now, int guest, int set) {
            for (int i = 0; i < unfed.length; i++) {
                unfed[i] = (now.freeOf(land, guest, i) & set) == set;
            }
        }

        private void lookFed(Land land, int day, int guest, int n, int set) {
            for (int meal = 0; meal < n; meal++) {
                for (int dish = 0; dish < land.dishes; dish++) {
                    for (int i = meal; i < n; i++) {
                        int free = land.freeByDish(guest, dish, day + meal, i - meal);
                        int index = indexOf(i, meal, dish);
                        if (index >= 0 && index < fed.length) {
                            fed[index] = (free & set) == set;
                        }
                    }
                }
            }
        }

        private static int indexOf(int i, int meal, int dish) {
            return (i * MENU_DAYS + meal) * DISHES + dish;
        }

        private boolean isFree(int i, int meal, int dish) {
            if (dish < 0) {
                return i >= 0 && i < unfed.length && unfed[i];
            }
            int index = indexOf(i, meal, dish);
            return index >= 0 && index < fed.length && fed[index];
        }

        private int mealsIfAllFree(int n) {
            int meals = 0;
            int meal = 0;
            int dish = NONE;
            for (int i = 0; i < n; i++) {
                int choice = at(choices, i);
                if (choice > 0) {
                    meals++;
                    meal = i;
                    dish = choice - 1;
                }
                if (!isFree(i, meal, dish)) {
                    return NONE;
                }
            }
            return meals;
        }

        private boolean step(int n, int dishes) {
            for (int i = n - 1; i >= 0; i--) {
                int choice = at(choices, i);
                if (choice < dishes) {
                    put(choices, i, choice + 1);
                    return true;
                }
                put(choices, i, 0);
            }
            return false;
        }
    }

    /** What is TOLD of a POT, and the pots that it may have been. */
    private static final class Told {
        // A DISH as it is told, with one more of a FOOD, with one less of a FOOD.
        private static final int CHANGES = 1 + 2 * FOODS;
        private static final int POTS = DISHES * CHANGES;

        private final int[] forces = new int[TELLS];
        private final int[] heats = new int[TELLS];
        private final int[] were = new int[TELLS];
        private int size;
        private final int[] dishOf = new int[POTS];
        private final int[] manyOf = new int[POTS];
        private final int[] sums = new int[POTS * FORCES];
        private int left;
        private final int[] tally = new int[MOST + 1];

        void clear() {
            size = 0;
        }

        int add(int force, int heat, int is) {
            if (size >= TELLS) {
                return NONE;
            }
            put(forces, size, force);
            put(heats, size, heat);
            put(were, size, is);
            size++;
            return size - 1;
        }

        /** Those pots that are as KNOWN by k are left. */
        void gather(Land land, int day, int k) {
            left = 0;
            for (int dish = 0; dish < land.dishes; dish++) {
                for (int change = 0; change < CHANGES; change++) {
                    if (lay(land, dish, change) && isAsKnown(land, day, k)) {
                        left++;
                    }
                }
            }
        }

        /** Lays a changed DISH behind those that are left; false: it can't be changed so. */
        private boolean lay(Land land, int dish, int change) {
            int more = change == 0 ? 0 : change <= FOODS ? 1 : -1;
            int food = more > 0 ? change - 1 : change - 1 - FOODS;
            int many = land.manyIn(dish) + more;
            if (more != 0 && food >= land.foods || more < 0 && land.inDish(dish, food) == 0 || many < 1) {
                return false;
            }
            put(dishOf, left, dish);
            put(manyOf, left, many);
            for (int kind = 0; kind < FORCES; kind++) {
                int brought = more == 0 ? 0 : more * land.broughtBy(food, kind);
                put(sums, left * FORCES + kind, land.sumOf(dish, kind) + brought);
            }
            return true;
        }

        private boolean isAsKnown(Land land, int day, int k) {
            for (int i = 0; i < k; i++) {
                if (forceOf(land, day, left, at(forces, i), at(heats, i)) != at(were, i)) {
                    return false;
                }
            }
            return true;
        }

        private int forceOf(Land land, int day, int pot, int kind, int heat) {
            return land.potForce(kind, at(sums, pot * FORCES + kind), heat, at(manyOf, pot), day);
        }

        int onlyDish() {
            for (int pot = 1; pot < left; pot++) {
                if (at(dishOf, pot) != at(dishOf, 0)) {
                    return NOTHING;
                }
            }
            return left > 0 ? at(dishOf, 0) : NOTHING;
        }

        int nextTaste(Land land, int day) {
            int fewest = left + 1;
            int first = NOTHING;
            for (int kind = 0; left > 0 && kind < FORCES; kind++) {
                for (int heat = 0; heat < HEATS; heat++) {
                    int worst = mostAlike(land, day, kind, heat);
                    if (worst < fewest) {
                        fewest = worst;
                        first = 10 * kind + heat;
                    }
                }
            }
            return first;
        }

        private int mostAlike(Land land, int day, int kind, int heat) {
            wipe(tally);
            int most = 0;
            for (int pot = 0; pot < left; pot++) {
                int force = forceOf(land, day, pot, kind, heat);
                int alike = at(tally, force) + 1;
                put(tally, force, alike);
                most = Math.max(most, alike);
            }
            return most;
        }
    }
}

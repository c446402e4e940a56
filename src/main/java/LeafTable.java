/**
 * A table that has a leaf more for each guest who says he can not stay, and takes one back from
 * who does. What each call promises is told in ../shared/DOC.md.
 */
public final class LeafTable {
    public static final int UNKNOWN = -1, OUTSIDE = -2, STATE = -3, FULL = -4, NONE = -9;

    private static final int MOST_LETTERS = 40;
    private static final int MOST_GUESTS = 5;
    private static final int LONGEST_LAID = 30;
    private static final int LONGEST = 60;
    private static final int MOST_ACTS = 14;
    private static final int MOST_SAYINGS = 4;
    private static final int MOST_TURNS = 4;
    private static final int MOST_FIGURES = 6;
    private static final int MOST_DINNERS = 6;
    private static final int WIDEST_CHANGE = 40;
    private static final int MOST_TIMES = 30;
    private static final int SLOTS = 2;
    private static final int KINDS = 4;

    /** By how many leaves a guest of each kind changes the table. */
    private static final int[] GROWTH = {1, -1, 2, 0};
    private static final int[] TENS = {1, 10, 100, 1000, 10000, 100000, 1000000};
    private static final int[] FACTORIALS = {1, 1, 2, 6, 24, 120};

    private static final long SEED_TIMES = 6364136223846793005L;
    private static final long SEED_MORE = 1442695040888963407L;

    private final Text text;
    private final Table table;
    private final Seats now;
    private final Acts acts;
    private final Seats[] kept;
    private final boolean[] isKept;
    private final Dinners dinners;
    private final Plans plans;
    private final Chances chances;
    private long seedNow;

    public LeafTable() {
        text = new Text();
        table = new Table();
        now = new Seats();
        acts = new Acts();
        kept = new Seats[SLOTS];
        for (int i = 0; i < SLOTS; i++) {
            kept[i] = new Seats();
        }
        isKept = new boolean[SLOTS];
        dinners = new Dinners();
        plans = new Plans(table);
        chances = new Chances(table, plans);
    }

    // ---- the table

    public int write(int letter) {
        if (letter < 0 || letter > 255) {
            return OUTSIDE;
        }
        return text.append(letter) ? text.size : FULL;
    }

    public int wipe() {
        int was = text.size;
        text.size = 0;
        return was;
    }

    public int fault() {
        return text.firstFault();
    }

    public int lay() {
        if (text.firstFault() != NONE) {
            return STATE;
        }
        table.readFrom(text);
        now.readFrom(text, table);
        acts.number = 0;
        for (int i = 0; i < SLOTS; i++) {
            isKept[i] = false;
        }
        return table.number;
    }

    public int guest(int guest, int what) {
        if (!table.knows(guest)) {
            return UNKNOWN;
        }
        switch (what) {
            case 0: return now.leaves[guest];
            case 1: return table.kinds[guest];
            case 2: return table.wants[guest];
            case 3: return table.ears[guest];
            case 4: return now.served >> guest & 1;
            case 5: return table.hearers(now) >> guest & 1;
            default: return OUTSIDE;
        }
    }

    // ---- acts

    public int say(int guest) {
        if (!table.knows(guest)) {
            return UNKNOWN;
        }
        if (!table.canSpeak(now, guest)) {
            return STATE;
        }
        acts.remember(now);
        table.speak(now, guest);
        return now.length;
    }

    public int pass(int guest) {
        if (!table.knows(guest)) {
            return UNKNOWN;
        }
        acts.remember(now);
        table.hand(now, guest);
        return now.warmth;
    }

    public int fetch() {
        int was = now.warmth;
        acts.remember(now);
        table.refill(now);
        return was;
    }

    public int undo() {
        if (acts.number == 0) {
            return STATE;
        }
        acts.takeBack(now);
        return acts.number;
    }

    // ---- plans

    public int passes(boolean row) {
        plans.planPasses(now, now.served, table.everybody());
        return row ? plans.firstPasses : plans.mostServed;
    }

    public int longBy(int n, boolean row) {
        if (n < 1 || n > LONGEST) {
            return OUTSIDE;
        }
        return told(plans.fewestSayings(now, n), row);
    }

    public int together(boolean row) {
        return told(plans.fewestSayings(now, Plans.ALL_HEAR), row);
    }

    public int judge(int n, int row) {
        if (!isRow(n, row)) {
            return OUTSIDE;
        }
        return plans.firstWrong(now, n, row);
    }

    public int share(int guest, boolean upper) {
        if (!table.knows(guest)) {
            return UNKNOWN;
        }
        return chances.shareOf(now, guest, upper);
    }

    // ---- words

    public int comes(int n, int word) {
        return isWord(n, word) ? turned(n, word, table.turnOfEars(now)) : OUTSIDE;
    }

    public int spoken(int n, int word) {
        return isWord(n, word) ? turned(n, word, -table.turnOfEars(now)) : OUTSIDE;
    }

    // ---- laws

    public int dine(int spoke, int v) {
        if (spoke < 0 || spoke >= TENS[KINDS] || v < -WIDEST_CHANGE || v > WIDEST_CHANGE) {
            return OUTSIDE;
        }
        return dinners.append(spoke, v) ? dinners.number : FULL;
    }

    public int clear() {
        int were = dinners.number;
        dinners.number = 0;
        return were;
    }

    public int laws(int what) {
        if (what < 0 || what > 2) {
            return OUTSIDE;
        }
        dinners.findLaws();
        if (what == 0) {
            return dinners.lawsFound;
        }
        return what == 1 ? dinners.firstLaw : dinners.sameKinds;
    }

    // ---- hosts, chances

    public int hosts(int n, boolean first) {
        if (n < 1 || n > MOST_TURNS) {
            return OUTSIDE;
        }
        int length = plans.lengthByTurns(now, n);
        return first ? plans.opening : length;
    }

    public int come(int x, int n, boolean upper) {
        if (x < 0 || x > 10 || n < 1 || n > LONGEST) {
            return OUTSIDE;
        }
        return chances.chanceOfLength(now, x, n, upper);
    }

    public long seed(long v) {
        long was = seedNow;
        seedNow = v;
        return was;
    }

    public int dinner(int m) {
        if (m < 1 || m > MOST_TIMES) {
            return OUTSIDE;
        }
        Seats trial = plans.trialFrom(now);
        for (int i = 0; i < m; i++) {
            seedNow = seedNow * SEED_TIMES + SEED_MORE;
            table.speakIfCan(trial, (int) ((seedNow >>> 33) % 6));
        }
        return trial.length;
    }

    // ---- slots

    public int keep(int slot) {
        if (slot < 0 || slot >= SLOTS) {
            return UNKNOWN;
        }
        kept[slot].become(now);
        isKept[slot] = true;
        return now.length;
    }

    public int again(int slot) {
        if (slot < 0 || slot >= SLOTS) {
            return UNKNOWN;
        }
        if (!isKept[slot]) {
            return STATE;
        }
        now.become(kept[slot]);
        acts.number = 0;
        return now.length;
    }

    public int count(int what) {
        switch (what) {
            case 0: return text.size;
            case 1: return table.number;
            case 2: return now.length;
            case 3: return table.reach;
            case 4: return now.soup;
            case 5: return now.warmth;
            case 6: return now.served;
            case 7: return table.hearers(now);
            case 8: return acts.number;
            case 9: return dinners.number;
            case 10: return table.warm;
            default: return OUTSIDE;
        }
    }

    // ---- figures

    /** A row of sayings as it is asked for: itself, or how many sayings it has. */
    private static int told(int sayings, boolean row) {
        return row || sayings == NONE ? sayings : figuresOf(sayings);
    }

    /** How many figures a row has; its figures are 1 more each, so none of them is a 0. */
    private static int figuresOf(int row) {
        int figures = 0;
        while (figures < MOST_FIGURES && row >= TENS[figures]) {
            figures++;
        }
        return figures;
    }

    private static boolean isRow(int n, int row) {
        return n >= 1 && n <= MOST_FIGURES && row >= 0 && row < TENS[n];
    }

    /** The figure at a place, 0 being the foremost of n. */
    private static int figureAt(int n, int row, int place) {
        int behind = n - 1 - place;
        return behind < 0 || behind > MOST_FIGURES ? 0 : row / TENS[behind] % 10;
    }

    private static boolean isWord(int n, int word) {
        if (!isRow(n, word)) {
            return false;
        }
        for (int place = 0; place < n; place++) {
            if (figureAt(n, word, place) > 3) {
                return false;
            }
        }
        return true;
    }

    private static int turned(int n, int word, int turn) {
        int result = 0;
        for (int place = 0; place < n; place++) {
            result = result * 10 + Math.floorMod(figureAt(n, word, place) + turn, 4);
        }
        return result;
    }

    /** THE TEXT, and where it can be no TABLE. */
    private static final class Text {
        private static final int HEAD = 5;
        private static final int EACH = 6;

        private final int[] letters = new int[MOST_LETTERS];
        private int size;

        boolean append(int letter) {
            if (size < 0 || size >= MOST_LETTERS) {
                return false;
            }
            letters[size] = letter;
            size++;
            return true;
        }

        int firstFault() {
            for (int place = 0; place < size; place++) {
                if (place < HEAD ? !fitsHead(place) : !fitsGuest(place)) {
                    return place;
                }
            }
            boolean isWhole = size >= HEAD && (size - HEAD) % EACH == 0;
            return isWhole ? NONE : size;
        }

        int guestsTold() {
            return size < HEAD ? 0 : Math.min((size - HEAD) / EACH, MOST_GUESTS);
        }

        int lengthTold() {
            return 10 * figureTold(1) + figureTold(2);
        }

        int leafTold(int guest) {
            int place = HEAD + EACH * guest + 1;
            return 10 * figureTold(place) + figureTold(place + 1);
        }

        /** A guest's kind (part = 3), wish (4) or ear (5). */
        int partTold(int guest, int part) {
            return figureTold(HEAD + EACH * guest + part);
        }

        /** The figure at a place; -1: there is none. */
        int figureTold(int place) {
            if (place < 0 || place >= size || place >= MOST_LETTERS) {
                return -1;
            }
            int figure = letters[place] - '0';
            return figure >= 0 && figure <= 9 ? figure : -1;
        }

        private boolean isLetter(int place, char letter) {
            return place >= 0 && place < size && place < MOST_LETTERS && letters[place] == letter;
        }

        /** Whether the letter fits, all the letters ahead of it fitting. */
        private boolean fitsHead(int place) {
            int figure = figureTold(place);
            switch (place) {
                case 0: return isLetter(place, 'T');
                case 1: return figure >= 0 && 10 * figure <= LONGEST_LAID;
                case 2: return figure >= 0 && lengthTold() >= 1 && lengthTold() <= LONGEST_LAID;
                default: return figure >= 1;
            }
        }

        private boolean fitsGuest(int place) {
            int guest = (place - HEAD) / EACH;
            int figure = figureTold(place);
            switch ((place - HEAD) % EACH) {
                // a guest for whom no leaf is left can not be told at all, so G itself is wrong
                case 0: return isLetter(place, 'G') && guest < MOST_GUESTS && guest < lengthTold();
                case 1: return figure >= 0 && isAnyFree(guest, 10 * figure);
                case 2: return figure >= 0 && isFree(guest, leafTold(guest));
                case 4: return figure >= 0;
                default: return figure >= 0 && figure <= 3;
            }
        }

        private boolean isAnyFree(int guest, int leaf) {
            for (int i = 0; i < 10; i++) {
                if (isFree(guest, leaf + i)) {
                    return true;
                }
            }
            return false;
        }

        /** Whether a leaf is there, and none of the guests told ahead of this one sits on it. */
        private boolean isFree(int guest, int leaf) {
            if (leaf >= lengthTold()) {
                return false;
            }
            for (int i = 0; i < guest; i++) {
                if (leafTold(i) == leaf) {
                    return false;
                }
            }
            return true;
        }
    }

    /** What acts change: the leaves, who sits where, the soup, who is served. */
    private static final class Seats {
        private final int[] leaves = new int[MOST_GUESTS];
        private int length = 1;
        private int soup;
        private int warmth = 1;
        private int served;

        void become(Seats other) {
            for (int i = 0; i < MOST_GUESTS; i++) {
                leaves[i] = other.leaves[i];
            }
            length = other.length;
            soup = other.soup;
            warmth = other.warmth;
            served = other.served;
        }

        void readFrom(Text text, Table table) {
            length = text.lengthTold();
            for (int i = 0; i < MOST_GUESTS; i++) {
                leaves[i] = i < table.number ? text.leafTold(i) : 0;
            }
            soup = 0;
            warmth = table.warm;
            served = 0;
        }
    }

    /** What stays as it was laid, and what it makes of seats. */
    private static final class Table {
        private final int[] kinds = new int[MOST_GUESTS];
        private final int[] wants = new int[MOST_GUESTS];
        private final int[] ears = new int[MOST_GUESTS];
        private int number;
        private int warm = 1;
        private int reach = 1;

        void readFrom(Text text) {
            warm = text.figureTold(3);
            reach = text.figureTold(4);
            number = text.guestsTold();
            for (int i = 0; i < number; i++) {
                kinds[i] = text.partTold(i, 3);
                wants[i] = text.partTold(i, 4);
                ears[i] = text.partTold(i, 5);
            }
        }

        boolean knows(int guest) {
            return guest >= 0 && guest < number && guest < MOST_GUESTS;
        }

        int everybody() {
            return (1 << number) - 1;
        }

        boolean canSpeak(Seats seats, int guest) {
            if (!knows(guest)) {
                return false;
            }
            int change = growthOf(guest);
            if (change >= 0) {
                return seats.length + change <= LONGEST;
            }
            int behind = seats.leaves[guest] + 1;
            return behind < seats.length && !isTaken(seats, behind);
        }

        /** A guest says its own; whoever calls this has asked canSpeak. */
        void speak(Seats seats, int guest) {
            if (!knows(guest)) {
                return;
            }
            int change = growthOf(guest);
            int own = seats.leaves[guest];
            for (int i = 0; i < number; i++) {
                if (seats.leaves[i] > own) {
                    seats.leaves[i] += change;
                }
            }
            if (seats.soup > own) {
                seats.soup += change;
            }
            seats.length += change;
        }

        boolean speakIfCan(Seats seats, int guest) {
            if (!canSpeak(seats, guest)) {
                return false;
            }
            speak(seats, guest);
            return true;
        }

        void hand(Seats seats, int guest) {
            if (!knows(guest)) {
                return;
            }
            int leaf = seats.leaves[guest];
            seats.warmth = Math.max(0, seats.warmth - Math.abs(leaf - seats.soup));
            seats.soup = leaf;
            if (seats.warmth >= wants[guest]) {
                seats.served |= 1 << guest;
            }
        }

        void refill(Seats seats) {
            seats.soup = 0;
            seats.warmth = warm;
        }

        /** Who hears the head, as bits. */
        int hearers(Seats seats) {
            int bits = 0;
            int from = 0;
            int next = nextFrom(seats, 0);
            for (int i = 0; i < number && next != NONE; i++) {
                int leaf = seats.leaves[next];
                if (leaf - from > reach) {
                    return bits;
                }
                bits |= 1 << next;
                from = leaf;
                next = nextFrom(seats, leaf + 1);
            }
            return bits;
        }

        boolean doAllHear(Seats seats) {
            return hearers(seats) == everybody();
        }

        /** By how much the ears of all that hear turn a figure. */
        int turnOfEars(Seats seats) {
            int bits = hearers(seats);
            int turn = 0;
            for (int i = 0; i < number; i++) {
                turn += (bits >> i & 1) * ears[i];
            }
            return turn;
        }

        /** The guest on the greatest leaf; NONE: there are no guests. */
        int farthest(Seats seats) {
            int found = NONE;
            int greatest = -1;
            for (int i = 0; i < number; i++) {
                if (seats.leaves[i] > greatest) {
                    greatest = seats.leaves[i];
                    found = i;
                }
            }
            return found;
        }

        /** The guest on the least leaf that is not less than the one told; NONE: there is none. */
        private int nextFrom(Seats seats, int leaf) {
            int found = NONE;
            int least = LONGEST;
            for (int i = 0; i < number; i++) {
                if (seats.leaves[i] >= leaf && seats.leaves[i] < least) {
                    least = seats.leaves[i];
                    found = i;
                }
            }
            return found;
        }

        private boolean isTaken(Seats seats, int leaf) {
            for (int i = 0; i < number; i++) {
                if (seats.leaves[i] == leaf) {
                    return true;
                }
            }
            return false;
        }

        private int growthOf(int guest) {
            int kind = kinds[guest];
            return kind >= 0 && kind < KINDS ? GROWTH[kind] : 0;
        }
    }

    /** The seats as they were ahead of each of the last acts. */
    private static final class Acts {
        private final Seats[] before = new Seats[MOST_ACTS];
        private int number;

        Acts() {
            for (int i = 0; i < MOST_ACTS; i++) {
                before[i] = new Seats();
            }
        }

        void remember(Seats seats) {
            if (number >= MOST_ACTS) {
                forgetFirst();
            }
            before[number].become(seats);
            number++;
        }

        void takeBack(Seats seats) {
            if (number > 0 && number <= MOST_ACTS) {
                number--;
                seats.become(before[number]);
            }
        }

        /** The forgotten one's seats go to the end, to be used again. */
        private void forgetFirst() {
            Seats first = before[0];
            for (int i = 1; i < MOST_ACTS; i++) {
                before[i - 1] = before[i];
            }
            before[MOST_ACTS - 1] = first;
            number = MOST_ACTS - 1;
        }
    }

    /** Searches over what may be done from now on; they change only seats of their own. */
    private static final class Plans {
        /** The goal of sayings that is no length. */
        private static final int ALL_HEAR = 0;
        private static final int DEEPEST = 5;

        private final Table table;
        private final Seats[] trials = new Seats[DEEPEST + 1];
        private int mostServed;
        private int firstPasses;
        private int opening;

        Plans(Table table) {
            this.table = table;
            for (int i = 0; i <= DEEPEST; i++) {
                trials[i] = new Seats();
            }
        }

        Seats trialFrom(Seats now) {
            trials[0].become(now);
            return trials[0];
        }

        /** Finds mostServed and firstPasses, if only those in the bits of present sit there. */
        void planPasses(Seats now, int served, int present) {
            trialFrom(now).served = served;
            mostServed = -1;
            firstPasses = 0;
            tryPasses(this, 0, 0, present);
        }

        private static void tryPasses(Plans plans, int depth, int row, int left) {
            if (depth < 0 || depth > DEEPEST) {
                return;
            }
            Seats seats = plans.trials[depth];
            plans.takePasses(Integer.bitCount(seats.served), row);
            if (depth == DEEPEST) {
                return;
            }
            Seats next = plans.trials[depth + 1];
            for (int i = 0; i < plans.table.number; i++) {
                if ((left >> i & 1) == 1) {
                    next.become(seats);
                    plans.table.hand(next, i);
                    tryPasses(plans, depth + 1, row * 10 + i + 1, left & ~(1 << i));
                }
            }
        }

        /** No figure is 0, so the shorter of two rows is the lesser number, too. */
        private void takePasses(int count, int row) {
            if (count > mostServed || count == mostServed && row < firstPasses) {
                mostServed = count;
                firstPasses = row;
            }
        }

        /** The first of the shortest rows of sayings to a goal: a length, or ALL_HEAR; NONE. */
        int fewestSayings(Seats now, int goal) {
            trialFrom(now);
            for (int sayings = 0; sayings <= MOST_SAYINGS; sayings++) {
                int row = trySayings(this, 0, sayings, 0, goal);
                if (row != NONE) {
                    return row;
                }
            }
            return NONE;
        }

        private static int trySayings(Plans plans, int depth, int sayings, int row, int goal) {
            if (depth < 0 || depth > DEEPEST) {
                return NONE;
            }
            Seats seats = plans.trials[depth];
            if (depth >= sayings || depth == DEEPEST) {
                return plans.isReached(seats, goal) ? row : NONE;
            }
            Seats next = plans.trials[depth + 1];
            for (int i = 0; i < plans.table.number; i++) {
                next.become(seats);
                if (plans.table.speakIfCan(next, i)) {
                    int found = trySayings(plans, depth + 1, sayings, row * 10 + i + 1, goal);
                    if (found != NONE) {
                        return found;
                    }
                }
            }
            return NONE;
        }

        private boolean isReached(Seats seats, int goal) {
            return goal == ALL_HEAR ? table.doAllHear(seats) : seats.length == goal;
        }

        /** The place of the first of n things that can not be, or leaves the soup cold; NONE. */
        int firstWrong(Seats now, int n, int row) {
            Seats trial = trialFrom(now);
            for (int place = 0; place < n; place++) {
                if (!happens(trial, figureAt(n, row, place)) || trial.warmth == 0) {
                    return place;
                }
            }
            return NONE;
        }

        private boolean happens(Seats trial, int thing) {
            if (thing < MOST_GUESTS) {
                return table.speakIfCan(trial, thing);
            }
            if (thing == 5 && table.number > 0) {
                table.hand(trial, table.farthest(trial));
                return true;
            }
            if (thing == 6) {
                table.refill(trial);
                return true;
            }
            return false;
        }

        /** The length behind all turns; opening is whom the first host makes speak first. */
        int lengthByTurns(Seats now, int turns) {
            trialFrom(now);
            opening = 0;
            return tryTurn(this, 0, turns);
        }

        private static int tryTurn(Plans plans, int depth, int turns) {
            if (depth < 0 || depth > DEEPEST) {
                return NONE;
            }
            Seats seats = plans.trials[depth];
            if (depth >= turns || depth == DEEPEST) {
                return seats.length;
            }
            Seats next = plans.trials[depth + 1];
            boolean wantsLong = depth % 2 == 0;
            int best = NONE;
            for (int speaker = 0; speaker <= plans.table.number; speaker++) {
                next.become(seats);
                if (speaker == 0 || plans.table.speakIfCan(next, speaker - 1)) {
                    int length = tryTurn(plans, depth + 1, turns);
                    if (best == NONE || (wantsLong ? length > best : length < best)) {
                        best = length;
                        plans.opening = depth == 0 ? speaker : plans.opening;
                    }
                }
            }
            return best;
        }
    }

    /** Fractions: shares of guests, and what comes by chance. */
    private static final class Chances {
        private final Table table;
        private final Plans plans;

        Chances(Table table, Plans plans) {
            this.table = table;
            this.plans = plans;
        }

        int shareOf(Seats now, int guest, boolean upper) {
            int above = 0;
            int own = 1 << guest;
            for (int present = 0; present <= table.everybody(); present++) {
                if ((present & own) == 0) {
                    int more = mostOf(now, present | own) - mostOf(now, present);
                    above += more * ordersWith(Integer.bitCount(present));
                }
            }
            return leastTerms(above, FACTORIALS[Math.min(table.number, MOST_GUESTS)], upper);
        }

        /** In how many orders of all guests just those so many have come ahead of one. */
        private int ordersWith(int ahead) {
            int behind = table.number - 1 - ahead;
            boolean canBe = ahead >= 0 && ahead <= MOST_GUESTS && behind >= 0 && behind <= MOST_GUESTS;
            return canBe ? FACTORIALS[ahead] * FACTORIALS[behind] : 0;
        }

        private int mostOf(Seats now, int present) {
            plans.planPasses(now, 0, present);
            return plans.mostServed;
        }

        int chanceOfLength(Seats now, int tenths, int length, boolean upper) {
            int above = 0;
            for (int present = 0; present <= table.everybody(); present++) {
                if (lengthBy(now, present) >= length) {
                    above += weightOf(present, tenths);
                }
            }
            return leastTerms(above, TENS[Math.min(table.number, MOST_GUESTS)], upper);
        }

        private int lengthBy(Seats now, int present) {
            Seats trial = plans.trialFrom(now);
            for (int i = 0; i < table.number; i++) {
                if ((present >> i & 1) == 1) {
                    table.speakIfCan(trial, i);
                }
            }
            return trial.length;
        }

        private int weightOf(int present, int tenths) {
            int weight = 1;
            for (int i = 0; i < table.number; i++) {
                weight *= (present >> i & 1) == 1 ? tenths : 10 - tenths;
            }
            return weight;
        }

        private static int leastTerms(int above, int below, boolean upper) {
            int divisor = greatestDivisor(Math.abs(above), below);
            if (divisor == 0) {
                return 0;
            }
            return upper ? above / divisor : below / divisor;
        }

        private static int greatestDivisor(int a, int b) {
            // Euclid's steps over ints are fewer than 64
            for (int step = 0; step < 64 && b != 0; step++) {
                int rest = a % b;
                a = b;
                b = rest;
            }
            return a;
        }
    }

    /** Told dinners, and the laws of growing by which all of them are so. */
    private static final class Dinners {
        private static final int LEAST_CHANGE = -1;
        private static final int CHANGES = 4;
        private static final int ALL_LAWS = CHANGES * CHANGES * CHANGES * CHANGES;

        private final int[] spoke = new int[MOST_DINNERS];
        private final int[] more = new int[MOST_DINNERS];
        private int number;
        private int lawsFound;
        private int firstLaw;
        private int sameKinds;

        boolean append(int speakers, int change) {
            if (number < 0 || number >= MOST_DINNERS) {
                return false;
            }
            spoke[number] = speakers;
            more[number] = change;
            number++;
            return true;
        }

        /** Finds lawsFound, firstLaw (as figures) and sameKinds (as bits). */
        void findLaws() {
            lawsFound = 0;
            firstLaw = NONE;
            sameKinds = NONE;
            for (int law = 0; law < ALL_LAWS; law++) {
                int figures = figuresOfLaw(law);
                if (holds(figures)) {
                    takeLaw(figures);
                }
            }
        }

        private void takeLaw(int figures) {
            if (lawsFound == 0) {
                firstLaw = figures;
                sameKinds = (1 << KINDS) - 1;
            }
            lawsFound++;
            for (int kind = 0; kind < KINDS; kind++) {
                if (figureAt(KINDS, figures, kind) != figureAt(KINDS, firstLaw, kind)) {
                    sameKinds &= ~(1 << kind);
                }
            }
        }

        /** The law so many behind the first one: a figure (1 more than the change) for each kind. */
        private static int figuresOfLaw(int law) {
            int figures = 0;
            int rest = law;
            for (int i = 0; i < KINDS; i++) {
                figures += rest % CHANGES * TENS[i];
                rest /= CHANGES;
            }
            return figures;
        }

        private boolean holds(int figures) {
            for (int i = 0; i < number; i++) {
                int change = 0;
                for (int kind = 0; kind < KINDS; kind++) {
                    int each = figureAt(KINDS, figures, kind) + LEAST_CHANGE;
                    change += figureAt(KINDS, spoke[i], kind) * each;
                }
                if (change != more[i]) {
                    return false;
                }
            }
            return true;
        }
    }
}
